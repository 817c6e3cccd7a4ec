/-! the constructor of TornLog -/
def tlW (cy : Nat → ClassId) (ad : Nat → Nat) (f0 : List Value) (f1 : Value) (f3 : List Value) (k : Nat) (f7 : Value) : Nat → va_E := fun i =>
  if i = 0 then .inr (4, f0) else if i = 1 then .inr (1, [f1, .int (nI 0)]) else if i = 2 then .inl (cy 0, 1060, .inl (fun _ => sb_b 0)) else lgW cy ad f3 k f7 i
section TLW
variable {cy : Nat → ClassId} {ad : Nat → Nat} {f0 f3 : List Value} {k : Nat} {f1 f7 : Value} {P : Nat → Prop}
theorem tlW_0 {f0' : List Value} : ∀ i, P i → va_up (tlW cy ad f0 f1 f3 k f7) 0 (.inr (4, f0')) i = tlW cy ad f0' f1 f3 k f7 i := by
  intro i _
  by_cases h : i = 0
  · subst h; rfl
  · rw [va_up_ne _ _ h]; simp only [tlW, if_neg h]
theorem tlW_i (i0 : Nat) (x : va_E) (hx : tlW cy ad f0 f1 f3 k f7 i0 = x) : ∀ i, P i → va_up (tlW cy ad f0 f1 f3 k f7) i0 x i = tlW cy ad f0 f1 f3 k f7 i := by
  intro i _
  by_cases h : i = i0
  · subst h; rw [va_up_self, hx]
  · rw [va_up_ne _ _ h]
theorem tlW_ge {i : Nat} (h : 3 ≤ i) : tlW cy ad f0 f1 f3 k f7 i = lgW cy ad f3 k f7 i := by
  unfold tlW
  rw [if_neg (by omega), if_neg (by omega), if_neg (by omega)]
theorem tlW_fin : ∀ i, PT i → tlW cy ad [.ref (ad 1), .ref (ad 3), .int (bI false)] (.ref (ad 2)) [.ref (ad 4), .ref (ad 5), .int (nI 0), .int (bI false), .int (nI 0), .ref (ad 6), .ref (ad 7)] 24 (.ref (ad 8)) i = tlC cy ad (fun _ => 0) 0 false (fun _ => 0) 0 false 0 false 0 0 (fun _ => 0) 0 (fun _ => 0) (fun _ _ => 0) (fun _ => 0) (fun _ => 0) (fun _ => 6) i := by
  intro i hi
  have hi : i < 9 ∨ (10 ≤ i ∧ i < 34) ∨ (40 ≤ i ∧ i < 64) := hi
  rcases hi with hi | hi | hi
  · rcases (show i = 0 ∨ i = 1 ∨ i = 2 ∨ i = 3 ∨ i = 4 ∨ i = 5 ∨ i = 6 ∨ i = 7 ∨ i = 8 by omega) with rfl | rfl | rfl | rfl | rfl | rfl | rfl | rfl | rfl <;> rfl
  · obtain ⟨j, rfl⟩ : ∃ j, i = 10 + j := ⟨i - 10, by omega⟩
    rw [tlW_ge (by omega), lgW_b (by omega), tl_b (by omega)]
  · obtain ⟨j, rfl⟩ : ∃ j, i = 40 + j := ⟨i - 40, by omega⟩
    rw [tlW_ge (by omega), lgW_c (by omega), tl_c (by omega)]
end TLW
set_option maxRecDepth 100000 in
set_option maxHeartbeats 4000000 in
theorem c_Tl_init (l : Launch) (D : va_G) (cy : Nat → ClassId) (ad : Nat → Nat) (sz : Nat) (h1 : ad 1 = sz) (h2 : ad 2 = sz + 1) (h3 : ad 3 = sz + 2) (hL : adL ad (sz + 3)) (hinj : ∀ i j, PT i → PT j → ad i = ad j → i = j) : mtC l y_Tl_init b_Tl_init 1 { frames := 3, cells := 56, slots := 2296, locals := 60 } D cy [.ref (ad 0)] lt1 ad (tlW cy ad [.null, .null, .int (bI false)] .null [.null, .null, .int (nI 0), .int (bI false), .int (nI 0), .null, .null] 0 .null) PT (tlC cy ad (fun _ => 0) 0 false (fun _ => 0) 0 false 0 false 0 0 (fun _ => 0) 0 (fun _ => 0) (fun _ _ => 0) (fun _ => 0) (fun _ => 0) (fun _ => 6)) sz 56 := by
  refine nm_ofW (cc := b_Tl_init) (maxL := 1) (ret := none) (own := R_Tl) (by decide) (Nat.le_of_ble_eq_true rfl) rfl ?_
  intro p e s m below meth c ls F hr hlk hnm hv hl
  obtain ⟨hx, hb, hml, hown, hts⟩ := id F
  obtain ⟨rfl, ⟨hP, hK, hI⟩, hAO⟩ := hv
  have hD : nd (na lt1 ad s.heap.size) (lt1) ad := nd_self hI
  have hA : ∀ q, s.heap.size ≤ q → na lt1 ad s.heap.size q := fun q h => Or.inr h
  have hS : va_S (na lt1 ad s.heap.size) s.heap s.heap [] := va_S.rf
  have hH : s.heap.size = s.heap.size + 0 := rfl
  have hl : lv_has ls 1 [(0, .ref (ad 0))] := hl
  have inj : ∀ {a : Nat}, a ≤ 9 → ∀ i j, i < a → j < a → ad i = ad j → i = j := fun h1 i j hi hj => hinj i j (Or.inl (by omega)) (Or.inl (by omega))
  refine lv_aload_n hx hb d_Tl_init_0 rfl (lv_at hl 0 rfl) ?_
  refine W.objInit hx hb hown (hts _ km_Tl_3) (hts _ k_oi) (hts _ k_oc) rfl (hl.1.trans hml.symm) rfl d_Tl_init_1 (Nat.le_of_ble_eq_true rfl) (Nat.le_of_ble_eq_true rfl) ?_
  refine (show W _ _ _ _ _ _ _ _ _ _ _ _ _ _ _ (F0 m 4 ls []) from ?_)
  refine lv_aload_n hx hb d_Tl_init_4 rfl (lv_at hl 0 rfl) ?_
  refine nf_newo (D := D) (ci := 1) (C := R_By) (T := T_By) (N := 2) (fs := [.null, .int (nI 0)]) hx hb hts in_By ty_By tk_By hown (hts _ kl_Tl_9) (hts _ kn_By) (hts _ k0_By) hK.k hP hD hS hA rfl (fun j hj => by rcases (show j = 0 ∨ j = 1 by omega) with rfl | rfl <;> rfl) (Nat.le_of_ble_eq_true rfl) (Nat.le_of_ble_eq_true rfl) d_Tl_init_5 1 (fun i => i < 2) (fun j h hne => by have h : j < 2 := h; show j < 1; omega) (by omega) (inj (by omega)) (fun H1 z1 hP hD hS => ?_)
  have hH : H1.size = s.heap.size + 1 := by omega
  have hP : nw D vcl (fun i => i < 2) ad (tlW cy ad [.null, .null, .int (bI false)] .null [.null, .null, .int (nI 0), .int (bI false), .int (nI 0), .null, .null] 0 .null) H1 := nw_congr hP (tlW_i 1 _ rfl)
  generalize H1 = H at hP hS hH ⊢
  refine lv_dup hx hb d_Tl_init_8 rfl ?_
  refine lv_sipush (v := nI 1060) hx hb d_Tl_init_9 (by decide) ?_
  have hsb : ∀ i, lt1 i → (fun i => i < 2) (i + 1) ∧ (tlW cy ad [.null, .null, .int (bI false)] .null [.null, .null, .int (nI 0), .int (bI false), .int (nI 0), .null, .null] 0 .null) (i + 1) = (fun i => if i = 0 then .inr (1, [.null, .int (nI 0)]) else .inl (cy 0, 1060, .inl (fun _ => sb_b 0)) : Nat → va_E) i := by
    intro i hi
    have hi : i < 1 := hi
    obtain rfl : i = 0 := by omega
    exact ⟨by decide, rfl⟩
  have hE1 : ∀ i, lt2 i → (tlW cy ad [.null, .null, .int (bI false)] (.ref (ad 2)) [.null, .null, .int (nI 0), .int (bI false), .int (nI 0), .null, .null] 0 .null) (i + 1) = byC cy (fun i => ad (i + 1)) 1060 (fun _ => 0) 0 i := by
    intro i hi
    have hi : i < 2 := hi
    rcases (show i = 0 ∨ i = 1 by omega) with rfl | rfl <;> rfl
  have hE2 : ∀ j, j < 3 → (∀ i, lt2 i → j ≠ i + 1) → (fun i => i < 2) j ∧ (tlW cy ad [.null, .null, .int (bI false)] (.ref (ad 2)) [.null, .null, .int (nI 0), .int (bI false), .int (nI 0), .null, .null] 0 .null) j = (tlW cy ad [.null, .null, .int (bI false)] .null [.null, .null, .int (nI 0), .int (bI false), .int (nI 0), .null, .null] 0 .null) j := by
    intro j hj hn
    have n0 : j ≠ 1 := hn 0 (by decide)
    have n1 : j ≠ 2 := hn 1 (by decide)
    obtain rfl : j = 0 := by omega
    exact ⟨by decide, rfl⟩
  refine call_C (As := [.int (nI 1060)]) (rest := [.ref (ad 1), .ref (ad 0)]) F hK hAO (c_By_init1060 l D cy (fun i => ad (i + 1)) _ (by show ad 2 = _; omega) (fun i j hi hj h => by have hi : i < 2 := hi; have hj : j < 2 := hj; have := hinj (i + 1) (j + 1) (Or.inl (by omega)) (Or.inl (by omega)) h; omega)) km_Tl_11 rfl ki_By_init k0_By kc_By_init kd_By_init ⟨(Nat.le_of_ble_eq_true rfl), (Nat.le_of_ble_eq_true rfl)⟩ (nw_sub hP (fun i => i + 1) hsb) (fun i j hi hj h => by have hi : i < 1 := hi; have hj : j < 1 := hj; omega) hl.1 rfl (Nat.le_of_ble_eq_true rfl) d_Tl_init_12 ⟨(Nat.le_of_ble_eq_true rfl), (Nat.le_of_ble_eq_true rfl)⟩ hS (fun q h => h.elim (fun ⟨i, hi, e⟩ => by rw [e]; exact hD.2 _ (hsb i hi).1) (fun h => Or.inr (by omega))) (fun H1 locs1 hP1 z1 hk1 hS => ?_)
  have hH : H1.size = s.heap.size + 2 := by omega
  have hP : nw D vcl (fun i => i < 3) ad (tlW cy ad [.null, .null, .int (bI false)] (.ref (ad 2)) [.null, .null, .int (nI 0), .int (bI false), .int (nI 0), .null, .null] 0 .null) H1 := nf_join (P1 := lt2) hP (inj (by omega)) (fun i => i + 1) (fun i hi => by have hi : i < 2 := hi; show i + 1 < 3; omega) (fun i h => by have h : i < 1 := h; show i < 2; omega) hk1 hP1 hE1 hE2
  have hD : nd (na lt1 ad s.heap.size) (fun i => i < 3) ad := by
    refine ⟨inj (by omega), fun i hi => ?_⟩
    by_cases h8 : i = 2
    · exact Or.inr (by rw [h8]; omega)
    · exact hD.2 i (by have hi : i < 3 := hi; show i < 2; omega)
  generalize H1 = H at hP hS hH ⊢
  refine nw_putF (D := D) (ci := 4) (C := R_Tl) (T := T_Tl) (N := 3) hx hb hts in_Tl ty_Tl tk_Tl nm_Tl hown hK.k hP hD hS (i := 0) (by first | exact Or.inl (by omega) | (show 0 < _; omega)) rfl rfl 0 (by decide) (hts _ kf_Tl_14) rfl hnm rfl rfl rfl (Nat.le_of_ble_eq_true rfl) d_Tl_init_15 (fun H locs hP hS hz hq => ?_)
  have hP : nw D vcl (fun i => i < 3) ad (tlW cy ad [.ref (ad 1), .null, .int (bI false)] (.ref (ad 2)) [.null, .null, .int (nI 0), .int (bI false), .int (nI 0), .null, .null] 0 .null) H := nw_congr hP (tlW_0)
  have hH : H.size = s.heap.size + (2) := by omega
  refine lv_aload_n hx hb d_Tl_init_18 rfl (lv_at hl 0 rfl) ?_
  refine nf_newo (D := D) (ci := 3) (C := R_Lg) (T := T_Lg) (N := 7) (fs := [.null, .null, .int (nI 0), .int (bI false), .int (nI 0), .null, .null]) hx hb hts in_Lg ty_Lg tk_Lg hown (hts _ kl_Tl_18) (hts _ kn_Lg) (hts _ k0_Lg) hK.k hP hD hS hA rfl (fun j hj => by rcases (show j = 0 ∨ j = 1 ∨ j = 2 ∨ j = 3 ∨ j = 4 ∨ j = 5 ∨ j = 6 by omega) with rfl | rfl | rfl | rfl | rfl | rfl | rfl <;> rfl) (Nat.le_of_ble_eq_true rfl) (Nat.le_of_ble_eq_true rfl) d_Tl_init_19 3 (fun i => i < 4) (fun j h hne => by have h : j < 4 := h; show j < 3; omega) (by omega) (inj (by omega)) (fun H1 z1 hP hD hS => ?_)
  have hH : H1.size = s.heap.size + 3 := by omega
  have hP : nw D vcl (fun i => i < 4) ad (tlW cy ad [.ref (ad 1), .null, .int (bI false)] (.ref (ad 2)) [.null, .null, .int (nI 0), .int (bI false), .int (nI 0), .null, .null] 0 .null) H1 := nw_congr hP (tlW_i 3 _ rfl)
  generalize H1 = H at hP hS hH ⊢
  refine lv_dup hx hb d_Tl_init_22 rfl ?_
  have hsb : ∀ i, PG 4 0 i → (fun i => i < 4) i ∧ (tlW cy ad [.ref (ad 1), .null, .int (bI false)] (.ref (ad 2)) [.null, .null, .int (nI 0), .int (bI false), .int (nI 0), .null, .null] 0 .null) i = (lgW cy ad [.null, .null, .int (nI 0), .int (bI false), .int (nI 0), .null, .null] 0 .null) i := by
    intro i hi
    have hi : (3 ≤ i ∧ i < 4) ∨ (10 ≤ i ∧ i < 10 + 0) ∨ (40 ≤ i ∧ i < 40 + 0) := hi
    obtain rfl : i = 3 := by omega
    exact ⟨by decide, rfl⟩
  have hE1 : ∀ i, PG 9 24 i → (tlW cy ad [.ref (ad 1), .null, .int (bI false)] (.ref (ad 2)) [.ref (ad 4), .ref (ad 5), .int (nI 0), .int (bI false), .int (nI 0), .ref (ad 6), .ref (ad 7)] 24 (.ref (ad 8))) i = (lgW cy ad [.ref (ad 4), .ref (ad 5), .int (nI 0), .int (bI false), .int (nI 0), .ref (ad 6), .ref (ad 7)] 24 (.ref (ad 8))) i := by
    intro i hi
    have hi : (3 ≤ i ∧ i < 9) ∨ (10 ≤ i ∧ i < 10 + 24) ∨ (40 ≤ i ∧ i < 40 + 24) := hi
    exact tlW_ge (by omega)
  have hE2 : ∀ j, PT j → (∀ i, PG 9 24 i → j ≠ i) → (fun i => i < 4) j ∧ (tlW cy ad [.ref (ad 1), .null, .int (bI false)] (.ref (ad 2)) [.ref (ad 4), .ref (ad 5), .int (nI 0), .int (bI false), .int (nI 0), .ref (ad 6), .ref (ad 7)] 24 (.ref (ad 8))) j = (tlW cy ad [.ref (ad 1), .null, .int (bI false)] (.ref (ad 2)) [.null, .null, .int (nI 0), .int (bI false), .int (nI 0), .null, .null] 0 .null) j := by
    intro j hj hn
    have hj : j < 9 ∨ (10 ≤ j ∧ j < 34) ∨ (40 ≤ j ∧ j < 64) := hj
    have n0 : ¬ PG 9 24 j := fun h => hn j h rfl
    have n0 : ¬ ((3 ≤ j ∧ j < 9) ∨ (10 ≤ j ∧ j < 10 + 24) ∨ (40 ≤ j ∧ j < 40 + 24)) := n0
    rcases (show j = 0 ∨ j = 1 ∨ j = 2 by omega) with rfl | rfl | rfl <;> exact ⟨by decide, rfl⟩
  refine call_C (As := []) (rest := [.ref (ad 3), .ref (ad 0)]) F hK hAO (c_Lg_init l D cy ad _ (by rw [hH]; exact hL) hinj) km_Tl_20 rfl ki_Lg_init k0_Lg kc_Lg_init kd_Lg_init ⟨(Nat.le_of_ble_eq_true rfl), (Nat.le_of_ble_eq_true rfl)⟩ (nw_sub hP (fun i => i) hsb) (fun i j hi hj => hinj i j (PG_PT (by omega) (by omega) hi) (PG_PT (by omega) (by omega) hj)) hl.1 rfl (Nat.le_of_ble_eq_true rfl) d_Tl_init_23 ⟨(Nat.le_of_ble_eq_true rfl), (Nat.le_of_ble_eq_true rfl)⟩ hS (fun q h => h.elim (fun ⟨i, hi, e⟩ => by rw [e]; exact hD.2 _ (hsb i hi).1) (fun h => Or.inr (by omega))) (fun H1 locs1 hP1 z1 hk1 hS => ?_)
  have hH : H1.size = s.heap.size + 56 := by omega
  have hP : nw D vcl PT ad (tlW cy ad [.ref (ad 1), .null, .int (bI false)] (.ref (ad 2)) [.ref (ad 4), .ref (ad 5), .int (nI 0), .int (bI false), .int (nI 0), .ref (ad 6), .ref (ad 7)] 24 (.ref (ad 8))) H1 := nf_join (P0 := PG 4 0) (P1 := PG 9 24) hP hinj (fun i => i) (fun i hi => PG_PT (by omega) (by omega) hi) (fun i h => by have h : (3 ≤ i ∧ i < 4) ∨ (10 ≤ i ∧ i < 10 + 0) ∨ (40 ≤ i ∧ i < 40 + 0) := h; exact Or.inl (by omega)) hk1 hP1 hE1 hE2
  obtain ⟨a4, ab, a5, a6, a7, a8⟩ := hL
  have hD : nd (na lt1 ad s.heap.size) PT ad := by
    refine ⟨hinj, fun i hi => ?_⟩
    by_cases h8 : i < 4
    · exact hD.2 i h8
    · refine Or.inr ?_
      have hi : i < 9 ∨ (10 ≤ i ∧ i < 34) ∨ (40 ≤ i ∧ i < 64) := hi
      rcases hi with hi | hi | hi
      · rcases (show i = 4 ∨ i = 5 ∨ i = 6 ∨ i = 7 ∨ i = 8 by omega) with rfl | rfl | rfl | rfl | rfl <;> omega
      · obtain ⟨j, rfl⟩ : ∃ j, i = 10 + j := ⟨i - 10, by omega⟩
        have := (ab j (by omega)).1
        omega
      · obtain ⟨j, rfl⟩ : ∃ j, i = 40 + j := ⟨i - 40, by omega⟩
        have := (ab j (by omega)).2
        omega
  generalize H1 = H at hP hS hH ⊢
  refine nw_putF (D := D) (ci := 4) (C := R_Tl) (T := T_Tl) (N := 3) hx hb hts in_Tl ty_Tl tk_Tl nm_Tl hown hK.k hP hD hS (i := 0) (by first | exact Or.inl (by omega) | (show 0 < _; omega)) rfl rfl 1 (by decide) (hts _ kf_Tl_21) rfl hnm rfl rfl rfl (Nat.le_of_ble_eq_true rfl) d_Tl_init_26 (fun H locs hP hS hz hq => ?_)
  have hP : nw D vcl PT ad (tlW cy ad [.ref (ad 1), .ref (ad 3), .int (bI false)] (.ref (ad 2)) [.ref (ad 4), .ref (ad 5), .int (nI 0), .int (bI false), .int (nI 0), .ref (ad 6), .ref (ad 7)] 24 (.ref (ad 8))) H := nw_congr hP (tlW_0)
  have hH : H.size = s.heap.size + (56) := by omega
  refine lv_aload_n hx hb d_Tl_init_29 rfl (lv_at hl 0 rfl) ?_
  refine lv_iconst (v := bI false) hx hb d_Tl_init_30 (by decide) ?_
  refine nw_put (D := D) (ci := 4) (C := R_Tl) (T := T_Tl) (N := 3) hx hb hts in_Tl ty_Tl tk_Tl nm_Tl hown hK.k hP hD hS (i := 0) (by first | exact Or.inl (by omega) | (show 0 < _; omega)) rfl rfl 2 (by decide) (hts _ kf_Tl_25) rfl (bI_nar _) (bI_fit _) (Nat.le_of_ble_eq_true rfl) d_Tl_init_31 (fun H locs hP hS hz hq => ?_)
  have hP : nw D vcl PT ad (tlW cy ad [.ref (ad 1), .ref (ad 3), .int (bI false)] (.ref (ad 2)) [.ref (ad 4), .ref (ad 5), .int (nI 0), .int (bI false), .int (nI 0), .ref (ad 6), .ref (ad 7)] 24 (.ref (ad 8))) H := nw_congr hP (tlW_0)
  have hH : H.size = s.heap.size + (56) := by omega
  exact end_C F hr hlk (nw_congr hP tlW_fin) hH hS d_Tl_init_34

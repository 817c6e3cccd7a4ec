/-! TornLog$Block.erase: names 0, 1 the block and its cells; 2 the cut. The first erasing makes the cells. -/
abbrev lt3 : Nat → Prop := fun i => i < 3
abbrev g2 : Nat → Nat := fun i => i + 2
def erC (cy : Nat → ClassId) (ad : Nat → Nat) (n : Nat) (g : Nat → Nat) (er rc re : Nat) (w : Bool) (cp cb : Nat) : Nat → va_E := fun i => if i = 0 then .inr (0, [.ref (ad 1), .int (nI er), .int (nI 0), .int (nI rc), .int (nI re)]) else if i = 1 then .inl (cy 0, n, .inl (fun j => sb_b (g j))) else .inr (2, [.int (bI w), .int (nI cp), .int (nI cb)])
/-- i cells erased from the first on -/
def fil (g : Nat → Nat) (i : Nat) : Nat → Nat := fun j => if j < i then 255 else g j
theorem fil_0 (g : Nat → Nat) : fil g 0 = g := by funext j; simp [fil]
theorem fil_s (g : Nat → Nat) (i : Nat) : va_up (fil g i) i 255 = fil g (i + 1) := by
  funext j
  by_cases h : j = i
  · subst h; simp [va_up, fil]
  · simp only [va_up_ne _ _ h, fil]
    by_cases h2 : j < i
    · rw [if_pos h2, if_pos (by omega)]
    · rw [if_neg h2, if_neg (by omega)]
theorem sb_m1b : vp_nar .byte (-1) = sb_b 255 := by decide
section ER
variable {D : va_G} {A : Nat → Prop} {cy : Nat → ClassId} {ad : Nat → Nat} {n er rc re cp cb x : Nat} {g g' : Nat → Nat} {w : Bool} {H H1 : Heap}
theorem er_row : ∀ i, lt3 i → va_up (erC cy ad n g er rc re w cp cb) 1 (.inl (cy 0, n, .inl (fun j => sb_b (g' j)))) i = erC cy ad n g' er rc re w cp cb i := by
  intro i hi
  rcases (show i = 0 ∨ i = 1 ∨ i = 2 by have hi : i < 3 := hi; omega) with rfl | rfl | rfl <;> simp [va_up, erC]
theorem er_er : ∀ i, lt3 i → va_up (erC cy ad n g er rc re w cp cb) 0 (.inr (0, [Value.ref (ad 1), Value.int (nI er), Value.int (nI 0), Value.int (nI rc), Value.int (nI re)].set 1 (Value.int (nI x)))) i = erC cy ad n g x rc re w cp cb i := by
  intro i hi
  rcases (show i = 0 ∨ i = 1 ∨ i = 2 by have hi : i < 3 := hi; omega) with rfl | rfl | rfl <;> simp [va_up, erC]
theorem er_2 : ∀ i, lt1 i → lt3 (g2 i) ∧ erC cy ad n g er rc re w cp cb (g2 i) = cuC w cp cb i := by
  intro i hi
  obtain rfl : i = 0 := by have hi : i < 1 := hi; omega
  exact ⟨by decide, by simp [erC, cuC]⟩
theorem er_p2 : ∀ i, lt1 i → lt3 (g2 i) := fun i hi => by have hi : i < 1 := hi; show i + 2 < 3; omega
theorem er_i2 (hd : nd A lt3 ad) : ∀ i j, lt1 i → lt1 j → ad (g2 i) = ad (g2 j) → i = j := nd_sub hd g2 er_p2 (fun i j _ _ h => by have h : i + 2 = j + 2 := h; omega)
theorem er_j2 {w' : Bool} {cp' cb' : Nat} (h : nw D vcl lt3 ad (erC cy ad n g er rc re w cp cb) H) (hd : nd A lt3 ad) (hk : ∀ q : Nat, q < H.size → ¬ na lt1 (fun i => ad (g2 i)) H.size q → H1[q]? = H[q]?) (h1 : nw D vcl lt1 (fun i => ad (g2 i)) (cuC w' cp' cb') H1) : nw D vcl lt3 ad (erC cy ad n g er rc re w' cp' cb') H1 := by
  refine nw_join h hd g2 er_p2 hk h1 (fun i hi => (er_2 i hi).2) (fun j hj hn => ?_)
  have h0 : j ≠ 2 := hn 0 (by decide)
  have h2 : j < 3 := hj
  rcases (show j = 0 ∨ j = 1 by omega) with rfl | rfl <;> rfl
end ER
set_option maxRecDepth 100000 in
set_option maxHeartbeats 4000000 in
theorem c_Bk_erT {p : Program} {l : Launch} {e : Env} {s : State} {m : MethodId} {args : Array Value} {below : List Frame} {meth : Method} {c : Code} {D : va_G} {cy : Nat → ClassId} {A : Nat → Prop} {cells slots : Nat} {Q : State → Prop} (ad : Nat → Nat) (er rc re cp cb : Nat) (g : Nat → Nat) (w : Bool) (hcp : cp < 2 ^ 31) (hcb : cb < 2 ^ 31) (F : CallFix p m c b_Bk_erase 4 s args TG R_Bk) (hK : KN D cy s) (hD : nd A lt3 ad) (hA : ∀ q, s.heap.size ≤ q → A q) (hcs : cells ≤ 1 ∧ slots ≤ 2048)
    (K : ∀ (H : Heap) (locs : List Loc) (ls : Array Slot), nw D vcl lt3 ad (erC cy ad 2048 (fil g (cutN w cp cb 2048)) (er + 1) rc re (cutW w cp) (cutP w cp) cb) H → va_S A s.heap H locs → W p l e { frames := 2, cells := 1, slots := 2048, locals := 34 } s m args below meth c H locs cells slots Q (F0 m 67 ls [.int (bI (decide (cutN w cp cb 2048 = 2048)))])) :
    ∀ (H : Heap) (locs : List Loc) (ls : Array Slot), nw D vcl lt3 ad (erC cy ad 2048 g er rc re w cp cb) H → va_S A s.heap H locs → lv_has ls 4 [(0, .ref (ad 0)), (1, .ref (ad 2))] → W p l e { frames := 2, cells := 1, slots := 2048, locals := 34 } s m args below meth c H locs cells slots Q (F0 m 17 ls []) := by
  intro H locs ls hP hS hl
  obtain ⟨hx, hb, hml, hown, hts⟩ := id F
  have hdn : cutN w cp cb 2048 ≤ 2048 := by unfold cutN; split <;> omega
  refine lv_aload_n hx hb d_Bk_erase_17 rfl (lv_at hl 0 rfl) ?_
  refine lv_dup hx hb d_Bk_erase_18 rfl ?_
  refine nw_get (D := D) (ci := 0) (C := R_Bk) (T := T_Bk) (N := 5) hx hb hts in_Bk hown hK.k hP (i := 0) (by decide) rfl rfl 1 (by decide) (hts _ kf_Bk_15) rfl d_Bk_erase_19 ?_
  refine lv_iconst (v := nI 1) hx hb d_Bk_erase_22 (by decide) ?_
  refine lv_iadd hx hb d_Bk_erase_23 ?_
  refine lv_eqi (nI_add _ _) ?_
  refine nw_put (D := D) (ci := 0) (C := R_Bk) (T := T_Bk) (N := 5) hx hb hts in_Bk ty_Bk tk_Bk nm_Bk hown hK.k hP hD hS (i := 0) (by decide) rfl rfl 1 (by decide) (hts _ kf_Bk_15) rfl rfl rfl (Nat.le_of_ble_eq_true rfl) d_Bk_erase_24 (fun H locs hP hS hz hq => ?_)
  have hP : nw D vcl lt3 ad (erC cy ad 2048 g (er + 1) rc re w cp cb) H := nw_congr hP (er_er)
  refine lv_aload_n hx hb d_Bk_erase_27 rfl (lv_at hl 1 rfl) ?_
  refine lv_sipush (v := nI 2048) hx hb d_Bk_erase_28 (by decide) ?_
  refine call_I (As := [.int (nI 2048)]) (rest := []) F hK (c_Cu_bytesDone l D cy (fun i => ad (g2 i)) w cp cb 2048 (by omega) (by omega) hcb hcp) km_Bk_28 ki_Cu_bytesDone ks_Cu_bytesDone k0_Cu kc_Cu_bytesDone kd_Cu_bytesDone ⟨Nat.le_of_ble_eq_true rfl, Nat.le_of_ble_eq_true rfl⟩ (nw_recv hK.k hP (i := 2) (by decide) rfl rfl) (nw_sub hP g2 er_2) (er_i2 hD) hl.1 rfl (Nat.le_of_ble_eq_true rfl) d_Bk_erase_31 ⟨hcs.1, hcs.2⟩ hS (na_sub hD hS hA g2 er_p2) (fun H1 locs1 hP1 hk1 hS => ?_)
  have hP : nw D vcl lt3 ad (erC cy ad 2048 g (er + 1) rc re (cutW w cp) (cutP w cp) cb) H1 := er_j2 hP hD hk1 hP1
  generalize H1 = H at hP hS ⊢
  refine lv_istore_n (lv' := [(2, .int (nI (cutN w cp cb 2048))), (0, .ref (ad 0)), (1, .ref (ad 2))]) hx hb d_Bk_erase_34 rfl hl (by decide) rfl (fun ls hl => ?_)
  refine lv_iconst (v := nI 0) hx hb d_Bk_erase_35 (by decide) ?_
  refine lv_istore_n (lv' := [(3, .int (nI 0)), (2, .int (nI (cutN w cp cb 2048))), (0, .ref (ad 0)), (1, .ref (ad 2))]) hx hb d_Bk_erase_36 rfl hl (by decide) rfl (fun ls hl => ?_)
  have loop : ∀ (j i : Nat), i + j = cutN w cp cb 2048 → ∀ (H : Heap) (locs : List Loc) (ls : Array Slot), nw D vcl lt3 ad (erC cy ad 2048 (fil g i) (er + 1) rc re (cutW w cp) (cutP w cp) cb) H → va_S A s.heap H locs → lv_has ls 4 [(3, .int (nI i)), (2, .int (nI (cutN w cp cb 2048))), (0, .ref (ad 0)), (1, .ref (ad 2))] → W p l e { frames := 2, cells := 1, slots := 2048, locals := 34 } s m args below meth c H locs cells slots Q (F0 m 37 ls []) := by
    intro j
    induction j with
    | zero =>
      intro i hi H locs ls hP hS hl
      have hi : i = cutN w cp cb 2048 := by omega
      subst hi
      refine lv_iload_n hx hb d_Bk_erase_37 rfl (lv_at hl 0 rfl) ?_
      refine lv_iload_n hx hb d_Bk_erase_38 rfl (lv_at hl 1 rfl) ?_
      refine lv_icmp_ge (tgt := 55) hx hb d_Bk_erase_39 (by decide) (fun c39 => ?_) (fun c39 => absurd ((nI_leI (by omega) (by omega)).mpr (by omega)) c39)
      refine lv_iload_n hx hb d_Bk_erase_55 rfl (lv_at hl 1 rfl) ?_
      refine lv_sipush (v := nI 2048) hx hb d_Bk_erase_56 (by decide) ?_
      refine lv_icmp_ne (tgt := 66) hx hb d_Bk_erase_59 (by decide) (fun c59 => ?_) (fun c59 => ?_)
      · have c59 := mt (nI_eq (by omega) (by omega)).mpr c59
        refine lv_iconst (v := nI 0) hx hb d_Bk_erase_66 (by decide) ?_
        have hk := K _ _ ls hP hS
        rw [show decide (cutN w cp cb 2048 = 2048) = false from decide_eq_false c59] at hk
        exact hk
      · have c59 := (nI_eq (by omega) (by omega)).mp c59
        refine lv_iconst (v := nI 1) hx hb d_Bk_erase_62 (by decide) ?_
        refine lv_goto (tgt := 67) hx hb d_Bk_erase_63 (by decide) ?_
        have hk := K _ _ ls hP hS
        rw [show decide (cutN w cp cb 2048 = 2048) = true from decide_eq_true c59] at hk
        exact hk
    | succ j ih =>
      intro i hi H locs ls hP hS hl
      refine lv_iload_n hx hb d_Bk_erase_37 rfl (lv_at hl 0 rfl) ?_
      refine lv_iload_n hx hb d_Bk_erase_38 rfl (lv_at hl 1 rfl) ?_
      refine lv_icmp_ge (tgt := 55) hx hb d_Bk_erase_39 (by decide) (fun c39 => absurd c39 (fun z => absurd ((nI_leI (by omega) (by omega)).mp z) (by omega))) (fun c39 => ?_)
      refine lv_aload_n hx hb d_Bk_erase_42 rfl (lv_at hl 2 rfl) ?_
      refine nw_get (D := D) (ci := 0) (C := R_Bk) (T := T_Bk) (N := 5) hx hb hts in_Bk hown hK.k hP (i := 0) (by decide) rfl rfl 0 (by decide) (hts _ kf_Bk_9) rfl d_Bk_erase_43 ?_
      refine lv_iload_n hx hb d_Bk_erase_46 rfl (lv_at hl 0 rfl) ?_
      refine lv_iconst (v := -1) hx hb d_Bk_erase_47 (by decide) ?_
      refine nw_bast hx hb hK.k hP hD hS (i := 1) (by decide) rfl 0 rfl (vp_in_nI (by omega) (by omega)) d_Bk_erase_48 (fun H locs hP hS hz hq => ?_)
      rw [nI_clamp (by omega), sb_m1b, by_upd, fil_s] at hP
      have hP : nw D vcl lt3 ad (erC cy ad 2048 (fil g (i + 1)) (er + 1) rc re (cutW w cp) (cutP w cp) cb) H := nw_congr hP (er_row)
      refine lv_iinc (v := nI (i + 1)) (lv' := [(3, .int (nI (i + 1))), (2, .int (nI (cutN w cp cb 2048))), (0, .ref (ad 0)), (1, .ref (ad 2))]) hx hb d_Bk_erase_49 hl (k := 0) rfl (nI_inc _) (by decide) rfl (fun ls hl => ?_)
      refine lv_goto (tgt := 37) hx hb d_Bk_erase_52 (by decide) ?_
      exact ih (i + 1) (by omega) _ _ _ hP hS (lv_sub hl [0, 1, 2, 3] rfl)
  exact loop (cutN w cp cb 2048) 0 (by omega) _ _ _ (by rw [fil_0]; exact hP) hS (lv_sub hl [0, 1, 2, 3] rfl)
/-- an erasing: r the answer; the cells lie at q then, where they lay or new -/
abbrev mtE (l : Launch) (D : va_G) (cy : Nat → ClassId) (ad : Nat → Nat) (n : Nat) (g g0 : Nat → Nat) (er rc re : Nat) (w : Bool) (cp cb : Nat) : Prop :=
  ∀ sz : Nat, Met l y_Bk_erase (Cond.code y_Bk_erase b_Bk_erase 4 (some .boolean) :: TG) { frames := 2, cells := 1, slots := 2048, locals := 34 } (va_Pc [.ref (ad 0), .ref (ad 2)] (fun U => U.heap.size = sz ∧ pre0 D cy lt3 ad (erC cy ad n g er rc re w cp cb) U))
    (va_Qi (fun r' (q : Nat) => r' = bI (decide (cutN w cp cb 2048 = 2048)) ∧ (q = ad 1 ∨ sz ≤ q)) (fun q t => nw D vcl lt3 (va_up ad 1 q) (erC cy (va_up ad 1 q) 2048 (fil g0 (cutN w cp cb 2048)) (er + 1) rc re (cutW w cp) (cutP w cp) cb) t.heap) (na lt3 ad sz)) 1 2048 (na lt3 ad sz)
set_option maxRecDepth 100000 in
set_option maxHeartbeats 4000000 in
theorem c_Bk_erase1 (l : Launch) (D : va_G) (cy : Nat → ClassId) (ad : Nat → Nat) (er rc re cp cb : Nat) (g : Nat → Nat) (w : Bool) (hcp : cp < 2 ^ 31) (hcb : cb < 2 ^ 31) : mtE l D cy ad 2048 g (g) er rc re w cp cb := by
  intro sz
  refine nm_ofW (cc := b_Bk_erase) (maxL := 4) (ret := (some .boolean)) (own := R_Bk) (by decide) (Nat.le_of_ble_eq_true rfl) rfl ?_
  intro p e s m below meth c ls F hr hlk hnm hv hl
  obtain ⟨hx, hb, hml, hown, hts⟩ := id F
  obtain ⟨rfl, hP, hK, hI⟩ := hv
  have hD : nd (na lt3 ad s.heap.size) lt3 ad := nd_self hI
  have hA : ∀ q, s.heap.size ≤ q → na lt3 ad s.heap.size q := fun q h => Or.inr h
  have hS : va_S (na lt3 ad s.heap.size) s.heap s.heap [] := va_S.rf
  have hl : lv_has ls 4 [(0, .ref (ad 0)), (1, .ref (ad 2))] := hl
  refine lv_aload_n hx hb d_Bk_erase_0 rfl (lv_at hl 0 rfl) ?_
  refine nw_get (D := D) (ci := 0) (C := R_Bk) (T := T_Bk) (N := 5) hx hb hts in_Bk hown hK.k hP (i := 0) (by decide) rfl rfl 0 (by decide) (hts _ kf_Bk_9) rfl d_Bk_erase_1 ?_
  refine nw_alen hx hb hK.k hP (i := 1) (by decide) rfl 0 rfl (v := nI 2048) rfl d_Bk_erase_4 ?_
  refine lv_if_ne (tgt := 17) hx hb d_Bk_erase_5 (by decide) (fun c5 => ?_) (fun c5 => absurd c5 (show ¬ nI 2048 = 0 by decide))
  refine c_Bk_erT ad er rc re cp cb g w hcp hcb F hK hD hA ⟨Nat.zero_le _, Nat.zero_le _⟩ (fun H locs ls hP hS => ?_) _ _ _ hP hS (lv_sub hl [0, 1] rfl)
  refine W.widen (k := 1) (n := 2048) (by omega) (by omega) ?_
  exact W.zret hx hb hr (bI_nar _) (fun t ht hW => ⟨⟨_, ad 1, rfl, ⟨rfl, Or.inl rfl⟩, by show nw _ _ _ _ _ t.heap; rw [ht, va_up_id]; exact hP⟩, hS.F ht⟩) hS.2.2 d_Bk_erase_67 hlk
set_option maxRecDepth 100000 in
set_option maxHeartbeats 4000000 in
theorem c_Bk_erase0 (l : Launch) (D : va_G) (cy : Nat → ClassId) (ad : Nat → Nat) (er rc re cp cb : Nat) (g : Nat → Nat) (w : Bool) (hcp : cp < 2 ^ 31) (hcb : cb < 2 ^ 31) : mtE l D cy ad 0 g (fun _ => 0) er rc re w cp cb := by
  intro sz
  refine nm_ofW (cc := b_Bk_erase) (maxL := 4) (ret := (some .boolean)) (own := R_Bk) (by decide) (Nat.le_of_ble_eq_true rfl) rfl ?_
  intro p e s m below meth c ls F hr hlk hnm hv hl
  obtain ⟨hx, hb, hml, hown, hts⟩ := id F
  obtain ⟨rfl, hP, hK, hI⟩ := hv
  have hD : nd (na lt3 ad s.heap.size) lt3 ad := nd_self hI
  have hA : ∀ q, s.heap.size ≤ q → na lt3 ad s.heap.size q := fun q h => Or.inr h
  have hS : va_S (na lt3 ad s.heap.size) s.heap s.heap [] := va_S.rf
  have hl : lv_has ls 4 [(0, .ref (ad 0)), (1, .ref (ad 2))] := hl
  refine lv_aload_n hx hb d_Bk_erase_0 rfl (lv_at hl 0 rfl) ?_
  refine nw_get (D := D) (ci := 0) (C := R_Bk) (T := T_Bk) (N := 5) hx hb hts in_Bk hown hK.k hP (i := 0) (by decide) rfl rfl 0 (by decide) (hts _ kf_Bk_9) rfl d_Bk_erase_1 ?_
  refine nw_alen hx hb hK.k hP (i := 1) (by decide) rfl 0 rfl (v := nI 0) rfl d_Bk_erase_4 ?_
  refine lv_if_ne (tgt := 17) hx hb d_Bk_erase_5 (by decide) (fun c5 => absurd (show nI 0 = 0 by decide) c5) (fun c5 => ?_)
  refine lv_aload_n hx hb d_Bk_erase_8 rfl (lv_at hl 0 rfl) ?_
  refine lv_sipush (v := nI 2048) hx hb d_Bk_erase_9 (by decide) ?_
  refine nw_newr (atype := .byte) hx hb (hts _ ka_byte) (ty := .byte) rfl hP hD hS hA (hK.k.2 0 _ rfl).2 (N' := 2048) (a0 := (2048, .inl (fun _ => sb_b 0))) (fun _ => rfl) (by decide) (by decide) (by decide) (Nat.le_of_ble_eq_true rfl) (Nat.le_of_ble_eq_true rfl) d_Bk_erase_12 1 lt3 (fun j h _ => h) (fun q H hq hP hD hS => ?_)
  have hs : s.heap.size ≤ q := hq
  have hP : nw D vcl lt3 (va_up ad 1 q) (fun i => if i = 0 then .inr (0, [.ref (ad 1), .int (nI er), .int (nI 0), .int (nI rc), .int (nI re)]) else if i = 1 then .inl (cy 0, 2048, .inl (fun _ => sb_b 0)) else .inr (2, [.int (bI w), .int (nI cp), .int (nI cb)])) H := nw_congr hP (fun i hi => by rcases (show i = 0 ∨ i = 1 ∨ i = 2 by have hi : i < 3 := hi; omega) with rfl | rfl | rfl <;> simp [va_up, erC])
  refine nw_put (D := D) (ci := 0) (C := R_Bk) (T := T_Bk) (N := 5) hx hb hts in_Bk ty_Bk tk_Bk nm_Bk hown hK.k hP hD hS (i := 0) (by decide) rfl rfl 0 (by decide) (hts _ kf_Bk_9) rfl rfl rfl (Nat.le_of_ble_eq_true rfl) d_Bk_erase_14 (fun H locs hP hS hz hq => ?_)
  have hP : nw D vcl lt3 (va_up ad 1 q) (erC cy (va_up ad 1 q) 2048 (fun _ => 0) er rc re w cp cb) H := nw_congr hP (fun i hi => by rcases (show i = 0 ∨ i = 1 ∨ i = 2 by have hi : i < 3 := hi; omega) with rfl | rfl | rfl <;> simp [va_up, erC])
  have hs2 : s.heap.size ≤ q := hs
  refine c_Bk_erT (va_up ad 1 q) er rc re cp cb (fun _ => 0) w hcp hcb F hK hD hA ⟨Nat.le_refl _, Nat.le_refl _⟩ (fun H locs ls hP hS => ?_) _ _ _ hP hS (lv_sub hl [0, 1] rfl)
  exact W.zret hx hb hr (bI_nar _) (fun t ht hW => ⟨⟨_, q, rfl, ⟨rfl, Or.inr hs2⟩, by show nw _ _ _ _ _ t.heap; rw [ht]; exact hP⟩, hS.F ht⟩) hS.2.2 d_Bk_erase_67 hlk

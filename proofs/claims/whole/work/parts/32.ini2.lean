/-! the constructors of Log and TornLog -/
abbrev PG (a k : Nat) : Nat → Prop := fun i => (3 ≤ i ∧ i < a) ∨ (10 ≤ i ∧ i < 10 + k) ∨ (40 ≤ i ∧ i < 40 + k)
theorem PG_PT {a k i : Nat} (ha : a ≤ 9) (hk : k ≤ 24) (h : PG a k i) : PT i := by
  have h : (3 ≤ i ∧ i < a) ∨ (10 ≤ i ∧ i < 10 + k) ∨ (40 ≤ i ∧ i < 40 + k) := h
  show i < 9 ∨ (10 ≤ i ∧ i < 34) ∨ (40 ≤ i ∧ i < 64)
  omega
/-- where Log's cells come to lie: from sz on -/
def adL (ad : Nat → Nat) (sz : Nat) : Prop := ad 4 = sz ∧ (∀ b, b < 24 → ad (10 + b) = sz + 1 + 2 * b ∧ ad (40 + b) = sz + 2 + 2 * b) ∧ ad 5 = sz + 49 ∧ ad 6 = sz + 50 ∧ ad 7 = sz + 51 ∧ ad 8 = sz + 52
def lgW (cy : Nat → ClassId) (ad : Nat → Nat) (f3 : List Value) (k : Nat) (f7 : Value) : Nat → va_E := fun i =>
  if i = 3 then .inr (3, f3) else if i = 4 then .inl (cy 4, 24, .inr (.inr (.inr (.inr (fun j => if j < k then some (ad (10 + j)) else none))))) else if i = 5 then .inl (cy 1, 24, .inl (fun _ => nI 0)) else if i = 6 then .inr (2, [.int (bI false), .int (nI 0), .int (nI 0)])
  else if i = 7 then .inr (1, [f7, .int (nI 0)]) else if i = 8 then .inl (cy 0, 1054, .inl (fun _ => sb_b 0)) else if i < 34 then .inr (0, [.ref (ad (40 + (i - 10))), .int (nI 0), .int (nI 0), .int (nI 0), .int (nI 6)]) else .inl (cy 0, 0, .inl (fun _ => sb_b 0))
section LGW
variable {D : va_G} {cy : Nat → ClassId} {ad : Nat → Nat} {f3 : List Value} {k : Nat} {f7 : Value} {P : Nat → Prop} {H : Heap}
theorem lgW_b {b : Nat} (h : b < 24) : lgW cy ad f3 k f7 (10 + b) = .inr (0, [.ref (ad (40 + b)), .int (nI 0), .int (nI 0), .int (nI 0), .int (nI 6)]) := by
  unfold lgW
  rw [if_neg (by omega), if_neg (by omega), if_neg (by omega), if_neg (by omega), if_neg (by omega), if_neg (by omega), if_pos (by omega)]
  rw [show 10 + b - 10 = b by omega]
theorem lgW_c {b : Nat} (h : b < 24) : lgW cy ad f3 k f7 (40 + b) = .inl (cy 0, 0, .inl (fun _ => sb_b 0)) := by
  unfold lgW
  rw [if_neg (by omega), if_neg (by omega), if_neg (by omega), if_neg (by omega), if_neg (by omega), if_neg (by omega), if_neg (by omega)]
theorem lgu_3 {f3' : List Value} : ∀ i, P i → va_up (lgW cy ad f3 k f7) 3 (.inr (3, f3')) i = lgW cy ad f3' k f7 i := by
  intro i _
  by_cases h : i = 3
  · subst h; rfl
  · rw [va_up_ne _ _ h]; simp only [lgW, if_neg h]
theorem lgu_4 (hk : k < 24) : ∀ i, P i → va_up (lgW cy ad f3 k f7) 4 (.inl (cy 4, 24, .inr (.inr (.inr (.inr (va_up (fun j => if j < k then some (ad (10 + j)) else none) k (some (ad (10 + k))))))))) i = lgW cy ad f3 (k + 1) f7 i := by
  intro i _
  by_cases h : i = 4
  · subst h
    rw [va_up_self]
    show _ = Sum.inl (cy 4, 24, _)
    congr 7
    funext j
    by_cases hj : j = k
    · subst hj; simp [va_up]
    · simp only [va_up, if_neg hj]
      by_cases h2 : j < k
      · rw [if_pos h2, if_pos (by omega)]
      · rw [if_neg h2, if_neg (by omega)]
  · rw [va_up_ne _ _ h]; simp only [lgW, if_neg h]
theorem lgu_i (i0 : Nat) (x : va_E) (hx : lgW cy ad f3 k f7 i0 = x) : ∀ i, P i → va_up (lgW cy ad f3 k f7) i0 x i = lgW cy ad f3 k f7 i := by
  intro i _
  by_cases h : i = i0
  · subst h; rw [va_up_self, hx]
  · rw [va_up_ne _ _ h]
theorem lgu_7 {f7' : Value} : ∀ i, P i → va_up (lgW cy ad f3 k f7) 7 (.inr (1, [f7', .int (nI 0)])) i = lgW cy ad f3 k f7' i := by
  intro i _
  by_cases h : i = 7
  · subst h; rfl
  · rw [va_up_ne _ _ h]; simp only [lgW, if_neg h]
end LGW
section NFA
variable {p : Program} {l : Launch} {e : Env} {R : Room} {s : State} {m : MethodId} {args : Array Value} {below : List Frame} {meth : Method} {c : Code} {H : Heap} {locs : List Loc} {cells slots : Nat} {Q : State → Prop}
variable {cc : ByteArray} {pc : Nat} {ls : Array Slot} {rest : List Value} {D : va_G} {cl : List vw_C} {A : Nat → Prop} {tys : List (ClassId × FieldType)} {H0 : Heap} {P : Nat → Prop} {ad : Nat → Nat} {ct : Nat → va_E}
theorem nf_aast (hexec : p.tables.exec = Jvm.exec) (hb : c.code = cc) (hK : va_K D cl tys s) (hP : nw D cl P ad ct H) (hD : nd A P ad) (hS : va_S A H0 H locs) {i : Nat} (hi : P i) {cA : ClassId} {r : vw_C} {n k ci : Nat} {vs : List Value} {f : Nat → Option Nat} (he : ct i = .inl (cA, n, .inr (.inr (.inr (.inr f))))) (t0 : Nat) (ht : tys[t0]? = some (cA, .object r.1)) (hk : P k) (hv : ct k = .inr (ci, vs)) (hc : cl[ci]? = some r) {j : Int32} (hin : vp_in j n) (hdg : decode cc pc = .ok (.aastore, 1))
    (kk : ∀ (H1 : Heap) (locs1 : List Loc), nw D cl P ad (va_up ct i (.inl (cA, n, .inr (.inr (.inr (.inr (va_up f j.toNatClampNeg (some (ad k))))))))) H1 → va_S A H0 H1 locs1 → H1.size = H.size → W p l e R s m args below meth c H1 locs1 cells slots Q (F0 m (pc + 1) ls rest)) : W p l e R s m args below meth c H locs cells slots Q (F0 m pc ls (.ref (ad k) :: .int j :: .ref (ad i) :: rest)) := by
  have hlt : j.toNatClampNeg < n := Nat.not_le.mp fun q => hin (Or.inr q)
  have h0 : ¬ j < 0 := fun q => hin (Or.inl q)
  have hat := hP i hi
  rw [he] at hat
  have hat2 := hP k hk
  rw [hv] at hat2
  obtain ⟨r', hr', cellV, g1, g2, g3, -⟩ := hat2
  have hcls := (hK.1 ci r hc).2
  obtain ⟨kA, comp, k1, k2, k3, -⟩ := (hK.2 t0 _ ht).2
  have hcomp : comp = D.1 ci := Option.some.inj (k3.symm.trans hcls.1)
  subst hcomp
  obtain ⟨kC, hkC, -⟩ := hcls.2
  refine W.aast hexec hb hat (fun q h => by cases h) (fun h => by cases h) k1 k2 rfl hkC ⟨h0, by show _ < (arrV _ _ _).slots.size; rw [arrV_size]; exact hlt⟩ g1 (fun q h => by rw [g3] at h; cases h) (by rw [g2]; exact hkC) (by rw [g2]; exact va_assign hcls) rfl rfl hdg fun H1 e z oq => ?_
  refine kk H1 _ (nw_set hP hD hi ?_ oq) (hS.put z oq (hD.2 i hi)) z
  show H1[ad i]? = some (vp_cell _ _)
  rw [e]
  rw [vp_cell_q, vp_cell_q, arrV_store]
  congr 2
  funext q
  by_cases hq : q = j.toNatClampNeg
  · subst hq
    simp [updV, va_up, va_rf]
  · simp [updV, va_up, hq]
end NFA
set_option maxRecDepth 100000 in
set_option maxHeartbeats 4000000 in
theorem c_Lg_init (l : Launch) (D : va_G) (cy : Nat → ClassId) (ad : Nat → Nat) (sz : Nat) (hL : adL ad sz) (hinj : ∀ i j, PT i → PT j → ad i = ad j → i = j) : mtC l y_Lg_init b_Lg_init 2 { frames := 2, cells := 53, slots := 1227, locals := 35 } D cy [.ref (ad 3)] (PG 4 0) ad (lgW cy ad [.null, .null, .int (nI 0), .int (bI false), .int (nI 0), .null, .null] 0 .null) (PG 9 24) (lgW cy ad [.ref (ad 4), .ref (ad 5), .int (nI 0), .int (bI false), .int (nI 0), .ref (ad 6), .ref (ad 7)] 24 (.ref (ad 8))) sz 53 := by
  refine nm_ofW (cc := b_Lg_init) (maxL := 2) (ret := none) (own := R_Lg) (by decide) (Nat.le_of_ble_eq_true rfl) rfl ?_
  intro p e s m below meth c ls F hr hlk hnm hv hl
  obtain ⟨hx, hb, hml, hown, hts⟩ := id F
  obtain ⟨rfl, ⟨hP, hK, hI⟩, hAO⟩ := hv
  have hD : nd (na (PG 4 0) ad s.heap.size) ((PG 4 0)) ad := nd_self hI
  have hA : ∀ q, s.heap.size ≤ q → na (PG 4 0) ad s.heap.size q := fun q h => Or.inr h
  have hS : va_S (na (PG 4 0) ad s.heap.size) s.heap s.heap [] := va_S.rf
  have hH : s.heap.size = s.heap.size + 0 := rfl
  have hl : lv_has ls 2 [(0, .ref (ad 3))] := hl
  obtain ⟨a4, ab, a5, a6, a7, a8⟩ := hL
  have inj : ∀ {a k : Nat}, a ≤ 9 → k ≤ 24 → ∀ i j, PG a k i → PG a k j → ad i = ad j → i = j := fun h1 h2 i j hi hj => hinj i j (PG_PT h1 h2 hi) (PG_PT h1 h2 hj)
  refine lv_aload_n hx hb d_Lg_init_0 rfl (lv_at hl 0 rfl) ?_
  refine W.objInit hx hb hown (hts _ km_Lg_3) (hts _ k_oi) (hts _ k_oc) rfl (hl.1.trans hml.symm) rfl d_Lg_init_1 (Nat.le_of_ble_eq_true rfl) (Nat.le_of_ble_eq_true rfl) ?_
  refine (show W _ _ _ _ _ _ _ _ _ _ _ _ _ _ _ (F0 m 4 ls []) from ?_)
  refine lv_aload_n hx hb d_Lg_init_4 rfl (lv_at hl 0 rfl) ?_
  refine lv_bipush (v := nI 24) hx hb d_Lg_init_5 (by decide) ?_
  refine nf_newq hx hb hown (hts _ kl_Lg_9) hAO hP hD hS hA (by obtain ⟨_, _, _, _, _, f1⟩ := (hK.k.2 4 _ rfl).2; exact f1) (N' := 24) (by decide) (by decide) (by decide) (Nat.le_of_ble_eq_true rfl) (Nat.le_of_ble_eq_true rfl) d_Lg_init_7 4 (PG 5 0) (fun j h hne => by have h : (3 ≤ j ∧ j < 5) ∨ (10 ≤ j ∧ j < 10 + 0) ∨ (40 ≤ j ∧ j < 40 + 0) := h; exact Or.inl (by omega)) a4 (inj (by omega) (by omega)) (fun H1 z1 hP hD hS => ?_)
  have hH : H1.size = s.heap.size + 1 := by omega
  have hP : nw D vcl (PG 5 0) ad (lgW cy ad [.null, .null, .int (nI 0), .int (bI false), .int (nI 0), .null, .null] 0 .null) H1 := nw_congr hP (lgu_i 4 _ (by simp [lgW]))
  generalize H1 = H at hP hS hH ⊢
  refine nw_putF (D := D) (ci := 3) (C := R_Lg) (T := T_Lg) (N := 7) hx hb hts in_Lg ty_Lg tk_Lg nm_Lg hown hK.k hP hD hS (i := 3) (Or.inl ⟨by omega, by omega⟩) rfl rfl 0 (by decide) (hts _ kf_Lg_11) rfl hnm rfl rfl rfl (Nat.le_of_ble_eq_true rfl) d_Lg_init_10 (fun H locs hP hS hz hq => ?_)
  have hP : nw D vcl (PG 5 0) ad (lgW cy ad [.ref (ad 4), .null, .int (nI 0), .int (bI false), .int (nI 0), .null, .null] 0 .null) H := nw_congr hP (lgu_3)
  have hH : H.size = s.heap.size + (1) := by omega
  refine lv_iconst (v := nI 0) hx hb d_Lg_init_13 (by decide) ?_
  refine lv_istore_n (lv' := [(1, .int (nI 0)), (0, .ref (ad 3))]) hx hb d_Lg_init_14 rfl hl (by decide) rfl (fun ls hl => ?_)
  have fin : ∀ (H : Heap) (locs : List Loc) (ls : Array Slot), nw D vcl (PG 5 24) ad (lgW cy ad [.ref (ad 4), .null, .int (nI 0), .int (bI false), .int (nI 0), .null, .null] 24 .null) H → nd (na (PG 4 0) ad s.heap.size) (PG 5 24) ad → H.size = s.heap.size + 49 → va_S (na (PG 4 0) ad s.heap.size) s.heap H locs → lv_has ls 2 [(0, .ref (ad 3))] → W p l e { frames := 2, cells := 53, slots := 1227, locals := 35 } s m [.ref (ad 3)].toArray below meth c H locs (49) (144) (MQ below (va_Qv (fun _ : Unit => True) (fun _ t => nw D vcl (PG 9 24) ad (lgW cy ad [.ref (ad 4), .ref (ad 5), .int (nI 0), .int (bI false), .int (nI 0), .ref (ad 6), .ref (ad 7)] 24 (.ref (ad 8))) t.heap ∧ t.heap.size = s.heap.size + 53) (na (PG 4 0) ad s.heap.size)) [.ref (ad 3)].toArray s 53 1227 (na (PG 4 0) ad s.heap.size)) (F0 m 40 ls []) := by
    intro H locs ls hP hD hH hS hl
    refine lv_aload_n hx hb d_Lg_init_40 rfl (lv_at hl 0 rfl) ?_
    refine lv_bipush (v := nI 24) hx hb d_Lg_init_41 (by decide) ?_
    refine nf_newr (atype := .int) hx hb (hts _ ka_int) (ty := .int) rfl hP hD hS hA (hK.k.2 1 _ rfl).2 (N' := 24) (a0 := (24, .inl (fun _ => nI 0))) (fun _ => rfl) (by decide) (by decide) (by decide) (Nat.le_of_ble_eq_true rfl) (Nat.le_of_ble_eq_true rfl) d_Lg_init_43 5 (PG 6 24) (fun j h hne => by have h : (3 ≤ j ∧ j < 6) ∨ (10 ≤ j ∧ j < 10 + 24) ∨ (40 ≤ j ∧ j < 40 + 24) := h; show (3 ≤ j ∧ j < 5) ∨ (10 ≤ j ∧ j < 10 + 24) ∨ (40 ≤ j ∧ j < 40 + 24); omega) (by omega) (inj (by omega) (by omega)) (fun H1 z1 hP hD hS => ?_)
    have hH : H1.size = s.heap.size + 50 := by omega
    have hP : nw D vcl (PG 6 24) ad (lgW cy ad [.ref (ad 4), .null, .int (nI 0), .int (bI false), .int (nI 0), .null, .null] 24 .null) H1 := nw_congr hP (lgu_i 5 _ (by simp [lgW]))
    generalize H1 = H at hP hS hH ⊢
    refine nw_putF (D := D) (ci := 3) (C := R_Lg) (T := T_Lg) (N := 7) hx hb hts in_Lg ty_Lg tk_Lg nm_Lg hown hK.k hP hD hS (i := 3) (Or.inl ⟨by omega, by omega⟩) rfl rfl 1 (by decide) (hts _ kf_Lg_18) rfl hnm rfl rfl rfl (Nat.le_of_ble_eq_true rfl) d_Lg_init_45 (fun H locs hP hS hz hq => ?_)
    have hP : nw D vcl (PG 6 24) ad (lgW cy ad [.ref (ad 4), .ref (ad 5), .int (nI 0), .int (bI false), .int (nI 0), .null, .null] 24 .null) H := nw_congr hP (lgu_3)
    have hH : H.size = s.heap.size + (50) := by omega
    refine lv_aload_n hx hb d_Lg_init_48 rfl (lv_at hl 0 rfl) ?_
    refine lv_iconst (v := nI 0) hx hb d_Lg_init_49 (by decide) ?_
    refine nw_put (D := D) (ci := 3) (C := R_Lg) (T := T_Lg) (N := 7) hx hb hts in_Lg ty_Lg tk_Lg nm_Lg hown hK.k hP hD hS (i := 3) (Or.inl ⟨by omega, by omega⟩) rfl rfl 2 (by decide) (hts _ kf_Lg_22) rfl rfl rfl (Nat.le_of_ble_eq_true rfl) d_Lg_init_50 (fun H locs hP hS hz hq => ?_)
    have hP : nw D vcl (PG 6 24) ad (lgW cy ad [.ref (ad 4), .ref (ad 5), .int (nI 0), .int (bI false), .int (nI 0), .null, .null] 24 .null) H := nw_congr hP (lgu_3)
    have hH : H.size = s.heap.size + (50) := by omega
    refine lv_aload_n hx hb d_Lg_init_53 rfl (lv_at hl 0 rfl) ?_
    refine lv_iconst (v := bI false) hx hb d_Lg_init_54 (by decide) ?_
    refine nw_put (D := D) (ci := 3) (C := R_Lg) (T := T_Lg) (N := 7) hx hb hts in_Lg ty_Lg tk_Lg nm_Lg hown hK.k hP hD hS (i := 3) (Or.inl ⟨by omega, by omega⟩) rfl rfl 3 (by decide) (hts _ kf_Lg_26) rfl (bI_nar _) (bI_fit _) (Nat.le_of_ble_eq_true rfl) d_Lg_init_55 (fun H locs hP hS hz hq => ?_)
    have hP : nw D vcl (PG 6 24) ad (lgW cy ad [.ref (ad 4), .ref (ad 5), .int (nI 0), .int (bI false), .int (nI 0), .null, .null] 24 .null) H := nw_congr hP (lgu_3)
    have hH : H.size = s.heap.size + (50) := by omega
    refine lv_aload_n hx hb d_Lg_init_58 rfl (lv_at hl 0 rfl) ?_
    refine lv_iconst (v := nI 0) hx hb d_Lg_init_59 (by decide) ?_
    refine nw_put (D := D) (ci := 3) (C := R_Lg) (T := T_Lg) (N := 7) hx hb hts in_Lg ty_Lg tk_Lg nm_Lg hown hK.k hP hD hS (i := 3) (Or.inl ⟨by omega, by omega⟩) rfl rfl 4 (by decide) (hts _ kf_Lg_30) rfl rfl rfl (Nat.le_of_ble_eq_true rfl) d_Lg_init_60 (fun H locs hP hS hz hq => ?_)
    have hP : nw D vcl (PG 6 24) ad (lgW cy ad [.ref (ad 4), .ref (ad 5), .int (nI 0), .int (bI false), .int (nI 0), .null, .null] 24 .null) H := nw_congr hP (lgu_3)
    have hH : H.size = s.heap.size + (50) := by omega
    refine lv_aload_n hx hb d_Lg_init_63 rfl (lv_at hl 0 rfl) ?_
    refine nf_newo (D := D) (ci := 2) (C := R_Cu) (T := T_Cu) (N := 3) (fs := [.int (bI false), .int (nI 0), .int (nI 0)]) hx hb hts in_Cu ty_Cu tk_Cu hown (hts _ kl_Lg_33) (hts _ kn_Cu) (hts _ k0_Cu) hK.k hP hD hS hA rfl (fun j hj => by rcases (show j = 0 ∨ j = 1 ∨ j = 2 by omega) with rfl | rfl | rfl <;> rfl) (Nat.le_of_ble_eq_true rfl) (Nat.le_of_ble_eq_true rfl) d_Lg_init_64 6 (PG 7 24) (fun j h hne => by have h : (3 ≤ j ∧ j < 7) ∨ (10 ≤ j ∧ j < 10 + 24) ∨ (40 ≤ j ∧ j < 40 + 24) := h; show (3 ≤ j ∧ j < 6) ∨ (10 ≤ j ∧ j < 10 + 24) ∨ (40 ≤ j ∧ j < 40 + 24); omega) (by omega) (inj (by omega) (by omega)) (fun H1 z1 hP hD hS => ?_)
    have hH : H1.size = s.heap.size + 51 := by omega
    have hP : nw D vcl (PG 7 24) ad (lgW cy ad [.ref (ad 4), .ref (ad 5), .int (nI 0), .int (bI false), .int (nI 0), .null, .null] 24 .null) H1 := nw_congr hP (lgu_i 6 _ (by simp [lgW]))
    generalize H1 = H at hP hS hH ⊢
    refine lv_dup hx hb d_Lg_init_67 rfl ?_
    have hsb : ∀ i, lt1 i → PG 7 24 ((fun i => i + 6) i) ∧ (lgW cy ad [.ref (ad 4), .ref (ad 5), .int (nI 0), .int (bI false), .int (nI 0), .null, .null] 24 .null) ((fun i => i + 6) i) = (cuC false 0 0) i := by
      intro i hi
      have hi : i < 1 := hi
      obtain rfl : i = 0 := by omega
      exact ⟨Or.inl ⟨by decide, by decide⟩, by simp [lgW, cuC]⟩
    have hE1 : ∀ i, lt1 i → (lgW cy ad [.ref (ad 4), .ref (ad 5), .int (nI 0), .int (bI false), .int (nI 0), .null, .null] 24 .null) ((fun i => i + 6) i) = (cuC false 0 0) i := by
      intro i hi
      have hi : i < 1 := hi
      obtain rfl : i = 0 := by omega
      simp [lgW, cuC]
    have hE2 : ∀ j, (PG 7 24) j → (∀ i, lt1 i → j ≠ (fun i => i + 6) i) → PG 7 24 j ∧ (lgW cy ad [.ref (ad 4), .ref (ad 5), .int (nI 0), .int (bI false), .int (nI 0), .null, .null] 24 .null) j = (lgW cy ad [.ref (ad 4), .ref (ad 5), .int (nI 0), .int (bI false), .int (nI 0), .null, .null] 24 .null) j := by
      intro j hj hn
      exact ⟨hj, rfl⟩
    refine call_C (As := []) (rest := [.ref (ad 6), .ref (ad 3)]) F hK hAO (c_Cu_init l D cy (fun i => ad (i + 6)) _) km_Lg_35 rfl ki_Cu_init k0_Cu kc_Cu_init kd_Cu_init ⟨(Nat.le_of_ble_eq_true rfl), (Nat.le_of_ble_eq_true rfl)⟩ (nw_sub hP (fun i => i + 6) hsb) (fun i j hi hj h => by have hi : i < 1 := hi; have hj : j < 1 := hj; omega) hl.1 rfl (Nat.le_of_ble_eq_true rfl) d_Lg_init_68 ⟨(Nat.le_of_ble_eq_true rfl), (Nat.le_of_ble_eq_true rfl)⟩ hS (fun q h => h.elim (fun ⟨i, hi, e⟩ => by rw [e]; exact hD.2 _ (hsb i hi).1) (fun h => Or.inr (by omega))) (fun H1 locs1 hP1 z1 hk1 hS => ?_)
    have hH : H1.size = s.heap.size + 51 := by omega
    have hP : nw D vcl (PG 7 24) ad (lgW cy ad [.ref (ad 4), .ref (ad 5), .int (nI 0), .int (bI false), .int (nI 0), .null, .null] 24 .null) H1 := nf_join (P1 := lt1) hP (inj (by omega) (by omega)) (fun i => i + 6) (fun i hi => by have hi : i < 1 := hi; exact Or.inl (by omega)) (fun i h => by have h : i < 1 := h; show i < 1; omega) hk1 hP1 hE1 hE2
    generalize H1 = H at hP hS hH ⊢
    refine nw_putF (D := D) (ci := 3) (C := R_Lg) (T := T_Lg) (N := 7) hx hb hts in_Lg ty_Lg tk_Lg nm_Lg hown hK.k hP hD hS (i := 3) (Or.inl ⟨by omega, by omega⟩) rfl rfl 5 (by decide) (hts _ kf_Lg_36) rfl hnm rfl rfl rfl (Nat.le_of_ble_eq_true rfl) d_Lg_init_71 (fun H locs hP hS hz hq => ?_)
    have hP : nw D vcl (PG 7 24) ad (lgW cy ad [.ref (ad 4), .ref (ad 5), .int (nI 0), .int (bI false), .int (nI 0), .ref (ad 6), .null] 24 .null) H := nw_congr hP (lgu_3)
    have hH : H.size = s.heap.size + (51) := by omega
    refine lv_aload_n hx hb d_Lg_init_74 rfl (lv_at hl 0 rfl) ?_
    refine nf_newo (D := D) (ci := 1) (C := R_By) (T := T_By) (N := 2) (fs := [.null, .int (nI 0)]) hx hb hts in_By ty_By tk_By hown (hts _ kl_Lg_40) (hts _ kn_By) (hts _ k0_By) hK.k hP hD hS hA rfl (fun j hj => by rcases (show j = 0 ∨ j = 1 by omega) with rfl | rfl <;> rfl) (Nat.le_of_ble_eq_true rfl) (Nat.le_of_ble_eq_true rfl) d_Lg_init_75 7 (PG 8 24) (fun j h hne => by have h : (3 ≤ j ∧ j < 8) ∨ (10 ≤ j ∧ j < 10 + 24) ∨ (40 ≤ j ∧ j < 40 + 24) := h; show (3 ≤ j ∧ j < 7) ∨ (10 ≤ j ∧ j < 10 + 24) ∨ (40 ≤ j ∧ j < 40 + 24); omega) (by omega) (inj (by omega) (by omega)) (fun H1 z1 hP hD hS => ?_)
    have hH : H1.size = s.heap.size + 52 := by omega
    have hP : nw D vcl (PG 8 24) ad (lgW cy ad [.ref (ad 4), .ref (ad 5), .int (nI 0), .int (bI false), .int (nI 0), .ref (ad 6), .null] 24 .null) H1 := nw_congr hP (lgu_i 7 _ (by simp [lgW]))
    generalize H1 = H at hP hS hH ⊢
    refine lv_dup hx hb d_Lg_init_78 rfl ?_
    refine lv_sipush (v := nI 1054) hx hb d_Lg_init_79 (by decide) ?_
    have hsb : ∀ i, lt1 i → PG 8 24 ((fun i => i + 7) i) ∧ (lgW cy ad [.ref (ad 4), .ref (ad 5), .int (nI 0), .int (bI false), .int (nI 0), .ref (ad 6), .null] 24 .null) ((fun i => i + 7) i) = (fun i => if i = 0 then .inr (1, [.null, .int (nI 0)]) else .inl (cy 0, 1054, .inl (fun _ => sb_b 0))) i := by
      intro i hi
      have hi : i < 1 := hi
      obtain rfl : i = 0 := by omega
      exact ⟨Or.inl ⟨by decide, by decide⟩, by simp [lgW, cuC]⟩
    have hE1 : ∀ i, lt2 i → (lgW cy ad [.ref (ad 4), .ref (ad 5), .int (nI 0), .int (bI false), .int (nI 0), .ref (ad 6), .null] 24 (.ref (ad 8))) ((fun i => i + 7) i) = (byC cy (fun i => ad (i + 7)) 1054 (fun _ => 0) 0) i := by
      intro i hi
      have hi : i < 2 := hi
      rcases (show i = 0 ∨ i = 1 by omega) with rfl | rfl <;> simp [lgW, byC, cuC]
    have hE2 : ∀ j, (PG 9 24) j → (∀ i, lt2 i → j ≠ (fun i => i + 7) i) → PG 8 24 j ∧ (lgW cy ad [.ref (ad 4), .ref (ad 5), .int (nI 0), .int (bI false), .int (nI 0), .ref (ad 6), .null] 24 (.ref (ad 8))) j = (lgW cy ad [.ref (ad 4), .ref (ad 5), .int (nI 0), .int (bI false), .int (nI 0), .ref (ad 6), .null] 24 .null) j := by
      intro j hj hn
      have n0 : j ≠ 7 := hn 0 (by decide)
      have n1 : j ≠ 8 := hn 1 (by decide)
      have hj : (3 ≤ j ∧ j < 9) ∨ (10 ≤ j ∧ j < 10 + 24) ∨ (40 ≤ j ∧ j < 40 + 24) := hj
      exact ⟨by show (3 ≤ j ∧ j < 8) ∨ (10 ≤ j ∧ j < 10 + 24) ∨ (40 ≤ j ∧ j < 40 + 24); omega, by simp only [lgW, if_neg n0]⟩
    refine call_C (As := [.int (nI 1054)]) (rest := [.ref (ad 7), .ref (ad 3)]) F hK hAO (c_By_init1054 l D cy (fun i => ad (i + 7)) _ (by show ad 8 = _; omega) (fun i j hi hj h => by have hi : i < 2 := hi; have hj : j < 2 := hj; have := hinj (i + 7) (j + 7) (Or.inl (by omega)) (Or.inl (by omega)) h; omega)) km_Lg_42 rfl ki_By_init k0_By kc_By_init kd_By_init ⟨(Nat.le_of_ble_eq_true rfl), (Nat.le_of_ble_eq_true rfl)⟩ (nw_sub hP (fun i => i + 7) hsb) (fun i j hi hj h => by have hi : i < 1 := hi; have hj : j < 1 := hj; omega) hl.1 rfl (Nat.le_of_ble_eq_true rfl) d_Lg_init_82 ⟨(Nat.le_of_ble_eq_true rfl), (Nat.le_of_ble_eq_true rfl)⟩ hS (fun q h => h.elim (fun ⟨i, hi, e⟩ => by rw [e]; exact hD.2 _ (hsb i hi).1) (fun h => Or.inr (by omega))) (fun H1 locs1 hP1 z1 hk1 hS => ?_)
    have hH : H1.size = s.heap.size + 53 := by omega
    have hP : nw D vcl (PG 9 24) ad (lgW cy ad [.ref (ad 4), .ref (ad 5), .int (nI 0), .int (bI false), .int (nI 0), .ref (ad 6), .null] 24 (.ref (ad 8))) H1 := nf_join (P1 := lt2) hP (inj (by omega) (by omega)) (fun i => i + 7) (fun i hi => by have hi : i < 2 := hi; exact Or.inl (by omega)) (fun i h => by have h : i < 1 := h; show i < 2; omega) hk1 hP1 hE1 hE2
    generalize H1 = H at hP hS hH ⊢
    have hD : nd (na (PG 4 0) ad s.heap.size) (PG 9 24) ad := by
      refine ⟨inj (by omega) (by omega), fun i hi => ?_⟩
      by_cases h8 : i = 8
      · exact Or.inr (by rw [h8]; omega)
      · have hi : (3 ≤ i ∧ i < 9) ∨ (10 ≤ i ∧ i < 10 + 24) ∨ (40 ≤ i ∧ i < 40 + 24) := hi
        exact hD.2 i (by show (3 ≤ i ∧ i < 8) ∨ (10 ≤ i ∧ i < 10 + 24) ∨ (40 ≤ i ∧ i < 40 + 24); omega)
    refine nw_putF (D := D) (ci := 3) (C := R_Lg) (T := T_Lg) (N := 7) hx hb hts in_Lg ty_Lg tk_Lg nm_Lg hown hK.k hP hD hS (i := 3) (Or.inl ⟨by omega, by omega⟩) rfl rfl 6 (by decide) (hts _ kf_Lg_45) rfl hnm rfl rfl rfl (Nat.le_of_ble_eq_true rfl) d_Lg_init_85 (fun H locs hP hS hz hq => ?_)
    have hP : nw D vcl (PG 9 24) ad (lgW cy ad [.ref (ad 4), .ref (ad 5), .int (nI 0), .int (bI false), .int (nI 0), .ref (ad 6), .ref (ad 7)] 24 (.ref (ad 8))) H := nw_congr hP (lgu_3)
    have hH : H.size = s.heap.size + (53) := by omega
    exact end_C F hr hlk hP hH hS d_Lg_init_88
  have loop : ∀ (j k : Nat), k + j = 24 → ∀ (H : Heap) (locs : List Loc) (ls : Array Slot), nw D vcl (PG 5 k) ad (lgW cy ad [.ref (ad 4), .null, .int (nI 0), .int (bI false), .int (nI 0), .null, .null] k .null) H → nd (na (PG 4 0) ad s.heap.size) (PG 5 k) ad → H.size = s.heap.size + (1 + 2 * k) → va_S (na (PG 4 0) ad s.heap.size) s.heap H locs → lv_has ls 2 [(1, .int (nI k)), (0, .ref (ad 3))] → W p l e { frames := 2, cells := 53, slots := 1227, locals := 35 } s m [.ref (ad 3)].toArray below meth c H locs (1 + 2 * k) (24 + 5 * k) (MQ below (va_Qv (fun _ : Unit => True) (fun _ t => nw D vcl (PG 9 24) ad (lgW cy ad [.ref (ad 4), .ref (ad 5), .int (nI 0), .int (bI false), .int (nI 0), .ref (ad 6), .ref (ad 7)] 24 (.ref (ad 8))) t.heap ∧ t.heap.size = s.heap.size + 53) (na (PG 4 0) ad s.heap.size)) [.ref (ad 3)].toArray s 53 1227 (na (PG 4 0) ad s.heap.size)) (F0 m 15 ls []) := by
    intro j
    induction j with
    | zero =>
      intro k hk H locs ls hP hD hH hS hl
      obtain rfl : k = 24 := by omega
      refine lv_iload_n hx hb d_Lg_init_15 rfl (lv_at hl 0 rfl) ?_
      refine lv_bipush (v := nI 24) hx hb d_Lg_init_16 (by decide) ?_
      refine lv_icmp_ge (tgt := 40) hx hb d_Lg_init_18 (by decide) (fun c18 => ?_) (fun c18 => absurd ((nI_leI (by omega) (by omega)).mpr (by omega)) c18)
      exact fin _ _ _ hP hD hH hS (lv_sub hl [1] rfl)
    | succ j ih =>
      intro k hk H locs ls hP hD hH hS hl
      have hk24 : k < 24 := by omega
      obtain ⟨ak, ck⟩ := ab k hk24
      refine lv_iload_n hx hb d_Lg_init_15 rfl (lv_at hl 0 rfl) ?_
      refine lv_bipush (v := nI 24) hx hb d_Lg_init_16 (by decide) ?_
      refine lv_icmp_ge (tgt := 40) hx hb d_Lg_init_18 (by decide) (fun c18 => absurd c18 (fun z => absurd ((nI_leI (by omega) (by omega)).mp z) (by omega))) (fun c18 => ?_)
      refine lv_aload_n hx hb d_Lg_init_21 rfl (lv_at hl 1 rfl) ?_
      refine nw_get (D := D) (ci := 3) (C := R_Lg) (T := T_Lg) (N := 7) hx hb hts in_Lg hown hK.k hP (i := 3) (Or.inl ⟨by omega, by omega⟩) rfl rfl 0 (by decide) (hts _ kf_Lg_11) rfl d_Lg_init_22 ?_
      refine lv_iload_n hx hb d_Lg_init_25 rfl (lv_at hl 0 rfl) ?_
      refine nf_newo (D := D) (ci := 0) (C := R_Bk) (T := T_Bk) (N := 5) (fs := [.null, .int (nI 0), .int (nI 0), .int (nI 0), .int (nI 0)]) hx hb hts in_Bk ty_Bk tk_Bk hown (hts _ kl_Lg_9) (hts _ kn_Bk) (hts _ k0_Bk) hK.k hP hD hS hA rfl (fun j hj => by rcases (show j = 0 ∨ j = 1 ∨ j = 2 ∨ j = 3 ∨ j = 4 by omega) with rfl | rfl | rfl | rfl | rfl <;> rfl) (show 1 + 2 * k + 1 ≤ 53 by omega) (show 24 + 5 * k + 5 ≤ 1227 by omega) d_Lg_init_26 (10 + k) (fun i => PG 5 k i ∨ i = 10 + k) (fun j h hne => h.resolve_right hne) (by omega) (fun i j hi hj => hinj i j (hi.elim (PG_PT (by omega) (by omega)) (fun h => by rw [h]; exact PT_b hk24)) (hj.elim (PG_PT (by omega) (by omega)) (fun h => by rw [h]; exact PT_b hk24))) (fun H1 z1 hP hD hS => ?_)
      have hH : H1.size = s.heap.size + (2 + 2 * k) := by omega
      generalize H1 = H at hP hS hH ⊢
      refine lv_dup hx hb d_Lg_init_29 rfl ?_
      have hsb : ∀ i, lt1 i → (fun i => PG 5 k i ∨ i = 10 + k) (q_bk k i) ∧ (va_up (lgW cy ad [.ref (ad 4), .null, .int (nI 0), .int (bI false), .int (nI 0), .null, .null] k .null) (10 + k) (.inr (0, [.null, .int (nI 0), .int (nI 0), .int (nI 0), .int (nI 0)]))) (q_bk k i) = (fun i => if i = 0 then .inr (0, [.null, .int (nI 0), .int (nI 0), .int (nI 0), .int (nI 0)]) else .inl (cy 0, 0, .inl (fun _ => sb_b 0))) i := by
        intro i hi
        have hi : i < 1 := hi
        obtain rfl : i = 0 := by omega
        refine ⟨Or.inr rfl, ?_⟩
        show va_up _ (10 + k) _ (10 + k) = _
        rw [va_up_self]
        rfl
      have hij : ∀ i j, lt2 i → lt2 j → ad (q_bk k i) = ad (q_bk k j) → i = j := by
        intro i j hi hj h
        have z := hinj (q_bk k i) (q_bk k j) (qp_bk hk24 i hi) (qp_bk hk24 j hj) h
        have hi : i < 2 := hi
        have hj : j < 2 := hj
        rcases (show i = 0 ∨ i = 1 by omega) with rfl | rfl <;> rcases (show j = 0 ∨ j = 1 by omega) with rfl | rfl <;> first | rfl | (exfalso; simp [q_bk] at z; done) | (exfalso; simp [q_bk] at z; omega)
      have hE1 : ∀ i, lt2 i → (lgW cy ad [.ref (ad 4), .null, .int (nI 0), .int (bI false), .int (nI 0), .null, .null] k .null) (q_bk k i) = (fun i => if i = 0 then .inr (0, [.ref (ad (q_bk k 1)), .int (nI 0), .int (nI 0), .int (nI 0), .int (nI 6)]) else .inl (cy 0, 0, .inl (fun _ => sb_b 0))) i := by
        intro i hi
        have hi : i < 2 := hi
        rcases (show i = 0 ∨ i = 1 by omega) with rfl | rfl
        · exact (lgW_b hk24).trans (by simp [q_bk])
        · exact (lgW_c hk24).trans (by simp)
      have hG : ∀ i, lt2 i → PG 5 (k + 1) (q_bk k i) := by
        intro i hi
        have hi : i < 2 := hi
        rcases (show i = 0 ∨ i = 1 by omega) with rfl | rfl
        · exact Or.inr (Or.inl ⟨by show 10 ≤ 10 + k; omega, by show 10 + k < _; omega⟩)
        · exact Or.inr (Or.inr ⟨by show 40 ≤ 40 + k; omega, by show 40 + k < _; omega⟩)
      have hE2 : ∀ j, (PG 5 (k + 1)) j → (∀ i, lt2 i → j ≠ q_bk k i) → (fun i => PG 5 k i ∨ i = 10 + k) j ∧ (lgW cy ad [.ref (ad 4), .null, .int (nI 0), .int (bI false), .int (nI 0), .null, .null] k .null) j = (va_up (lgW cy ad [.ref (ad 4), .null, .int (nI 0), .int (bI false), .int (nI 0), .null, .null] k .null) (10 + k) (.inr (0, [.null, .int (nI 0), .int (nI 0), .int (nI 0), .int (nI 0)]))) j := by
        intro j hj hn
        have n0 : j ≠ 10 + k := hn 0 (by decide)
        have n1 : j ≠ 40 + k := hn 1 (by decide)
        have hj : (3 ≤ j ∧ j < 5) ∨ (10 ≤ j ∧ j < 10 + (k + 1)) ∨ (40 ≤ j ∧ j < 40 + (k + 1)) := hj
        refine ⟨Or.inl ?_, by rw [va_up_ne _ _ n0]⟩
        show (3 ≤ j ∧ j < 5) ∨ (10 ≤ j ∧ j < 10 + k) ∨ (40 ≤ j ∧ j < 40 + k)
        omega
      refine call_C (As := []) (rest := [.ref (ad (10 + k)), .int (nI k), .ref (ad 4)]) F hK hAO (c_Bk_init l D cy (fun i => ad (q_bk k i)) _ (show ad (40 + k) = _ by omega) hij) km_Lg_17 rfl ki_Bk_init k0_Bk kc_Bk_init kd_Bk_init ⟨(Nat.le_of_ble_eq_true rfl), (Nat.le_of_ble_eq_true rfl)⟩ (nw_sub hP (q_bk k) hsb) (fun i j hi hj h => by have hi : i < 1 := hi; have hj : j < 1 := hj; omega) hl.1 rfl (Nat.le_of_ble_eq_true rfl) d_Lg_init_30 ⟨show 1 + 2 * k + 1 + 1 ≤ 53 by omega, show 24 + 5 * k + 5 + 0 ≤ 1227 by omega⟩ hS (fun q h => h.elim (fun ⟨i, hi, e⟩ => by rw [e]; exact hD.2 _ (hsb i hi).1) (fun h => Or.inr (by omega))) (fun H1 locs1 hP1 z1 hk1 hS => ?_)
      have hH : H1.size = s.heap.size + (3 + 2 * k) := by omega
      have hP : nw D vcl (PG 5 (k + 1)) ad (lgW cy ad [.ref (ad 4), .null, .int (nI 0), .int (bI false), .int (nI 0), .null, .null] k .null) H1 := nf_join (P1 := lt2) hP (inj (by omega) (by omega)) (q_bk k) hG (fun i h => by have h : i < 1 := h; show i < 2; omega) hk1 hP1 hE1 hE2
      have hD : nd (na (PG 4 0) ad s.heap.size) (PG 5 (k + 1)) ad := by
        refine ⟨inj (by omega) (by omega), fun i hi => ?_⟩
        by_cases h8 : i = 40 + k
        · exact Or.inr (by rw [h8]; omega)
        · have hi : (3 ≤ i ∧ i < 5) ∨ (10 ≤ i ∧ i < 10 + (k + 1)) ∨ (40 ≤ i ∧ i < 40 + (k + 1)) := hi
          by_cases h9 : i = 10 + k
          · exact hD.2 i (Or.inr h9)
          · exact hD.2 i (Or.inl (by show (3 ≤ i ∧ i < 5) ∨ (10 ≤ i ∧ i < 10 + k) ∨ (40 ≤ i ∧ i < 40 + k); omega))
      generalize H1 = H at hP hS hH ⊢
      refine nf_aast hx hb hK.k hP hD hS (i := 4) (Or.inl ⟨by omega, by omega⟩) (show lgW _ _ _ _ _ 4 = _ from rfl) 4 rfl (k := 10 + k) (Or.inr (Or.inl ⟨by omega, by omega⟩)) (lgW_b hk24) rfl (vp_in_nI (by omega) (by omega)) d_Lg_init_33 (fun H1 locs1 hP hS z1 => ?_)
      rw [nI_clamp (by omega)] at hP
      have hP : nw D vcl (PG 5 (k + 1)) ad (lgW cy ad [.ref (ad 4), .null, .int (nI 0), .int (bI false), .int (nI 0), .null, .null] (k + 1) .null) H1 := nw_congr hP (lgu_4 hk24)
      have hH : H1.size = s.heap.size + (1 + 2 * (k + 1)) := by omega
      generalize H1 = H at hP hS hH ⊢
      refine lv_iinc (v := nI (k + 1)) (lv' := [(1, .int (nI (k + 1))), (0, .ref (ad 3))]) hx hb d_Lg_init_34 hl (k := 0) rfl (nI_inc _) (by decide) rfl (fun ls hl => ?_)
      refine lv_goto (tgt := 15) hx hb d_Lg_init_37 (by decide) ?_
      refine W.widen (k := 1 + 2 * (k + 1)) (n := 24 + 5 * (k + 1)) (by show 1 + 2 * k + 1 + 1 ≤ _; omega) (by show 24 + 5 * k + 5 + 0 ≤ _; omega) ?_
      exact ih (k + 1) (by omega) _ _ _ hP hD hH hS (lv_sub hl [0, 1] rfl)
  exact loop 24 0 (by omega) _ _ _ hP hD hH hS (lv_sub hl [0, 1] rfl)

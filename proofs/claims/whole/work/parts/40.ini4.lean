/-! the constructor of TornLogModel -/
theorem vpc_byte (n : Nat) (cA : ClassId) : vp_cell cA (n, .inl (fun _ => sb_b 0)) = arrV cA n (fun _ => defaultValue .byte) := rfl
theorem vpc_int (n : Nat) (cA : ClassId) : vp_cell cA (n, .inl (fun _ => nI 0)) = arrV cA n (fun _ => defaultValue .int) := rfl
theorem vpc_boolean (n : Nat) (cA : ClassId) : vp_cell cA (n, .inl (fun _ => bI false)) = arrV cA n (fun _ => defaultValue .boolean) := rfl
theorem k_n489 : (nI 48960).toNatClampNeg = 48960 := nI_clamp (by omega)
theorem k_l489 : nI 48960 = 48960 := by decide
theorem k_c489 : Cond.constant R_Mo 34 48960 ∈ TG := by decide +kernel
def mdW (cy : Nat → ClassId) (ad : Nat → Nat) (f0 : List Value) : Nat → va_E := fun i => if i = 0 then .inr (5, f0) else mdC cy ad 0 false (fun _ => 0) 0 false 0 0 (fun _ => 0) (fun _ => 0) (fun _ => false) (fun _ => 0) (fun _ => 0) 0 none (fun _ => 0) 0 i
section MDW
variable {cy : Nat → ClassId} {ad : Nat → Nat} {f0 : List Value} {P : Nat → Prop}
theorem mdW_at : mdW cy ad f0 0 = .inr (5, f0) := rfl
theorem mdW_0 {f0' : List Value} : ∀ i, P i → va_up (mdW cy ad f0) 0 (.inr (5, f0')) i = mdW cy ad f0' i := by
  intro i _
  by_cases h : i = 0
  · subst h; rfl
  · rw [va_up_ne _ _ h]; simp only [mdW, if_neg h]
theorem mdW_i (i0 : Nat) (x : va_E) (hx : mdW cy ad f0 i0 = x) : ∀ i, P i → va_up (mdW cy ad f0) i0 x i = mdW cy ad f0 i := by
  intro i _
  by_cases h : i = i0
  · subst h; rw [va_up_self, hx]
  · rw [va_up_ne _ _ h]
end MDW
set_option maxRecDepth 100000 in
set_option maxHeartbeats 4000000 in
theorem c_Mo_init (l : Launch) (D : va_G) (cy : Nat → ClassId) (ad : Nat → Nat) (sz : Nat) (had : ∀ i, 1 ≤ i → i < 8 → ad i = sz + (i - 1)) (hinj : ∀ i j, i < 8 → j < 8 → ad i = ad j → i = j) : mtC l y_Mo_init b_Mo_init 1 { frames := 1, cells := 7, slots := 50140, locals := 12 } D cy [.ref (ad 0)] lt1 ad (mdW cy ad [.int (nI 0), .int (bI false), .null, .int (nI 0), .int (bI false), .int (nI 0), .int (nI 0), .null, .null, .null, .null, .null, .int (nI 0), .int (nI 0), .null, .int (nI 0)]) PM (mdC cy ad 0 false (fun _ => 0) 0 false 0 0 (fun _ => 0) (fun _ => 0) (fun _ => false) (fun _ => 0) (fun _ => 0) 0 none (fun _ => 0) 0) sz 7 := by
  refine nm_ofW (cc := b_Mo_init) (maxL := 1) (ret := none) (own := R_Mo) (by decide) (Nat.le_of_ble_eq_true rfl) rfl ?_
  intro p e s m below meth c ls F hr hlk hnm hv hl
  obtain ⟨hx, hb, hml, hown, hts⟩ := id F
  obtain ⟨rfl, ⟨hP, hK, hI⟩, hAO⟩ := hv
  have hD : nd (na lt1 ad s.heap.size) (lt1) ad := nd_self hI
  have hA : ∀ q, s.heap.size ≤ q → na lt1 ad s.heap.size q := fun q h => Or.inr h
  have hS : va_S (na lt1 ad s.heap.size) s.heap s.heap [] := va_S.rf
  have hH : s.heap.size = s.heap.size + 0 := rfl
  have hl : lv_has ls 1 [(0, .ref (ad 0))] := hl
  have inj : ∀ {a : Nat}, a ≤ 8 → ∀ i j, i < a → j < a → ad i = ad j → i = j := fun h1 i j hi hj => hinj i j (by omega) (by omega)
  have a1 := had 1 (by omega) (by omega)
  have a2 := had 2 (by omega) (by omega)
  have a3 := had 3 (by omega) (by omega)
  have a4 := had 4 (by omega) (by omega)
  have a5 := had 5 (by omega) (by omega)
  have a6 := had 6 (by omega) (by omega)
  have a7 := had 7 (by omega) (by omega)
  refine lv_aload_n hx hb d_Mo_init_0 rfl (lv_at hl 0 rfl) ?_
  refine W.objInit hx hb hown (hts _ km_Mo_1) (hts _ k_oi) (hts _ k_oc) rfl (hl.1.trans hml.symm) rfl d_Mo_init_1 (Nat.le_of_ble_eq_true rfl) (Nat.le_of_ble_eq_true rfl) ?_
  refine (show W _ _ _ _ _ _ _ _ _ _ _ _ _ _ _ (F0 m 4 ls []) from ?_)
  refine lv_aload_n hx hb d_Mo_init_4 rfl (lv_at hl 0 rfl) ?_
  refine lv_sipush (v := nI 1060) hx hb d_Mo_init_5 (by decide) ?_
  refine nf_newr (atype := .byte) hx hb (hts _ ka_byte) (ty := .byte) rfl hP hD hS hA (hK.k.2 0 _ rfl).2 (N' := 1060) (a0 := (1060, .inl (fun _ => sb_b 0))) (vpc_byte _) (by decide) (by decide) (by decide) (Nat.le_of_ble_eq_true rfl) (Nat.le_of_ble_eq_true rfl) d_Mo_init_8 1 ((fun i => i < 2)) (fun j h hne => Nat.lt_of_le_of_ne (Nat.le_of_lt_succ h) hne) (a1.trans hH.symm) (inj (Nat.le_of_ble_eq_true rfl)) (fun H1 z1 hP hD hS => ?_)
  have hH : H1.size = s.heap.size + 1 := z1.trans (congrArg (· + 1) hH)
  have hP : nw D vcl ((fun i => i < 2)) ad (mdW cy ad [.int (nI 0), .int (bI false), .null, .int (nI 0), .int (bI false), .int (nI 0), .int (nI 0), .null, .null, .null, .null, .null, .int (nI 0), .int (nI 0), .null, .int (nI 0)]) H1 := nw_congr hP (mdW_i 1 _ rfl)
  generalize H1 = H at hP hS hH ⊢
  refine nw_putF (D := D) (ci := 5) (C := R_Mo) (T := T_Mo) (N := 16) hx hb hts in_Mo ty_Mo tk_Mo nm_Mo hown hK.k hP hD hS (i := 0) (Nat.zero_lt_succ _) mdW_at rfl 2 (by decide) (hts _ kf_Mo_7) rfl hnm rfl rfl rfl (Nat.le_of_ble_eq_true rfl) d_Mo_init_10 (fun H locs hP hS hz hq => ?_)
  have hP : nw D vcl (fun i => i < 2) ad (mdW cy ad [.int (nI 0), .int (bI false), .ref (ad 1), .int (nI 0), .int (bI false), .int (nI 0), .int (nI 0), .null, .null, .null, .null, .null, .int (nI 0), .int (nI 0), .null, .int (nI 0)]) H := nw_congr hP (mdW_0)
  have hH : H.size = s.heap.size + 1 := hz.trans hH
  refine lv_aload_n hx hb d_Mo_init_13 rfl (lv_at hl 0 rfl) ?_
  refine lv_bipush (v := nI 24) hx hb d_Mo_init_14 (by decide) ?_
  refine nf_newr (atype := .int) hx hb (hts _ ka_int) (ty := .int) rfl hP hD hS hA (hK.k.2 1 _ rfl).2 (N' := 24) (a0 := (24, .inl (fun _ => nI 0))) (vpc_int _) (by decide) (by decide) (by decide) (Nat.le_of_ble_eq_true rfl) (Nat.le_of_ble_eq_true rfl) d_Mo_init_16 2 ((fun i => i < 3)) (fun j h hne => Nat.lt_of_le_of_ne (Nat.le_of_lt_succ h) hne) (a2.trans hH.symm) (inj (Nat.le_of_ble_eq_true rfl)) (fun H1 z1 hP hD hS => ?_)
  have hH : H1.size = s.heap.size + 2 := z1.trans (congrArg (· + 1) hH)
  have hP : nw D vcl ((fun i => i < 3)) ad (mdW cy ad [.int (nI 0), .int (bI false), .ref (ad 1), .int (nI 0), .int (bI false), .int (nI 0), .int (nI 0), .null, .null, .null, .null, .null, .int (nI 0), .int (nI 0), .null, .int (nI 0)]) H1 := nw_congr hP (mdW_i 2 _ rfl)
  generalize H1 = H at hP hS hH ⊢
  refine nw_putF (D := D) (ci := 5) (C := R_Mo) (T := T_Mo) (N := 16) hx hb hts in_Mo ty_Mo tk_Mo nm_Mo hown hK.k hP hD hS (i := 0) (Nat.zero_lt_succ _) mdW_at rfl 7 (by decide) (hts _ kf_Mo_13) rfl hnm rfl rfl rfl (Nat.le_of_ble_eq_true rfl) d_Mo_init_18 (fun H locs hP hS hz hq => ?_)
  have hP : nw D vcl (fun i => i < 3) ad (mdW cy ad [.int (nI 0), .int (bI false), .ref (ad 1), .int (nI 0), .int (bI false), .int (nI 0), .int (nI 0), .ref (ad 2), .null, .null, .null, .null, .int (nI 0), .int (nI 0), .null, .int (nI 0)]) H := nw_congr hP (mdW_0)
  have hH : H.size = s.heap.size + 2 := hz.trans hH
  refine lv_aload_n hx hb d_Mo_init_21 rfl (lv_at hl 0 rfl) ?_
  refine lv_bipush (v := nI 24) hx hb d_Mo_init_22 (by decide) ?_
  refine nf_newr (atype := .int) hx hb (hts _ ka_int) (ty := .int) rfl hP hD hS hA (hK.k.2 1 _ rfl).2 (N' := 24) (a0 := (24, .inl (fun _ => nI 0))) (vpc_int _) (by decide) (by decide) (by decide) (Nat.le_of_ble_eq_true rfl) (Nat.le_of_ble_eq_true rfl) d_Mo_init_24 3 ((fun i => i < 4)) (fun j h hne => Nat.lt_of_le_of_ne (Nat.le_of_lt_succ h) hne) (a3.trans hH.symm) (inj (Nat.le_of_ble_eq_true rfl)) (fun H1 z1 hP hD hS => ?_)
  have hH : H1.size = s.heap.size + 3 := z1.trans (congrArg (· + 1) hH)
  have hP : nw D vcl ((fun i => i < 4)) ad (mdW cy ad [.int (nI 0), .int (bI false), .ref (ad 1), .int (nI 0), .int (bI false), .int (nI 0), .int (nI 0), .ref (ad 2), .null, .null, .null, .null, .int (nI 0), .int (nI 0), .null, .int (nI 0)]) H1 := nw_congr hP (mdW_i 3 _ rfl)
  generalize H1 = H at hP hS hH ⊢
  refine nw_putF (D := D) (ci := 5) (C := R_Mo) (T := T_Mo) (N := 16) hx hb hts in_Mo ty_Mo tk_Mo nm_Mo hown hK.k hP hD hS (i := 0) (Nat.zero_lt_succ _) mdW_at rfl 8 (by decide) (hts _ kf_Mo_17) rfl hnm rfl rfl rfl (Nat.le_of_ble_eq_true rfl) d_Mo_init_26 (fun H locs hP hS hz hq => ?_)
  have hP : nw D vcl (fun i => i < 4) ad (mdW cy ad [.int (nI 0), .int (bI false), .ref (ad 1), .int (nI 0), .int (bI false), .int (nI 0), .int (nI 0), .ref (ad 2), .ref (ad 3), .null, .null, .null, .int (nI 0), .int (nI 0), .null, .int (nI 0)]) H := nw_congr hP (mdW_0)
  have hH : H.size = s.heap.size + 3 := hz.trans hH
  refine lv_aload_n hx hb d_Mo_init_29 rfl (lv_at hl 0 rfl) ?_
  refine lv_bipush (v := nI 24) hx hb d_Mo_init_30 (by decide) ?_
  refine nf_newr (atype := .boolean) hx hb (hts _ ka_boolean) (ty := .boolean) rfl hP hD hS hA (hK.k.2 2 _ rfl).2 (N' := 24) (a0 := (24, .inl (fun _ => bI false))) (vpc_boolean _) (by decide) (by decide) (by decide) (Nat.le_of_ble_eq_true rfl) (Nat.le_of_ble_eq_true rfl) d_Mo_init_32 4 ((fun i => i < 5)) (fun j h hne => Nat.lt_of_le_of_ne (Nat.le_of_lt_succ h) hne) (a4.trans hH.symm) (inj (Nat.le_of_ble_eq_true rfl)) (fun H1 z1 hP hD hS => ?_)
  have hH : H1.size = s.heap.size + 4 := z1.trans (congrArg (· + 1) hH)
  have hP : nw D vcl ((fun i => i < 5)) ad (mdW cy ad [.int (nI 0), .int (bI false), .ref (ad 1), .int (nI 0), .int (bI false), .int (nI 0), .int (nI 0), .ref (ad 2), .ref (ad 3), .null, .null, .null, .int (nI 0), .int (nI 0), .null, .int (nI 0)]) H1 := nw_congr hP (mdW_i 4 _ rfl)
  generalize H1 = H at hP hS hH ⊢
  refine nw_putF (D := D) (ci := 5) (C := R_Mo) (T := T_Mo) (N := 16) hx hb hts in_Mo ty_Mo tk_Mo nm_Mo hown hK.k hP hD hS (i := 0) (Nat.zero_lt_succ _) mdW_at rfl 9 (by decide) (hts _ kf_Mo_20) rfl hnm rfl rfl rfl (Nat.le_of_ble_eq_true rfl) d_Mo_init_34 (fun H locs hP hS hz hq => ?_)
  have hP : nw D vcl (fun i => i < 5) ad (mdW cy ad [.int (nI 0), .int (bI false), .ref (ad 1), .int (nI 0), .int (bI false), .int (nI 0), .int (nI 0), .ref (ad 2), .ref (ad 3), .ref (ad 4), .null, .null, .int (nI 0), .int (nI 0), .null, .int (nI 0)]) H := nw_congr hP (mdW_0)
  have hH : H.size = s.heap.size + 4 := hz.trans hH
  refine lv_aload_n hx hb d_Mo_init_37 rfl (lv_at hl 0 rfl) ?_
  refine lv_bipush (v := nI 24) hx hb d_Mo_init_38 (by decide) ?_
  refine nf_newr (atype := .int) hx hb (hts _ ka_int) (ty := .int) rfl hP hD hS hA (hK.k.2 1 _ rfl).2 (N' := 24) (a0 := (24, .inl (fun _ => nI 0))) (vpc_int _) (by decide) (by decide) (by decide) (Nat.le_of_ble_eq_true rfl) (Nat.le_of_ble_eq_true rfl) d_Mo_init_40 5 ((fun i => i < 6)) (fun j h hne => Nat.lt_of_le_of_ne (Nat.le_of_lt_succ h) hne) (a5.trans hH.symm) (inj (Nat.le_of_ble_eq_true rfl)) (fun H1 z1 hP hD hS => ?_)
  have hH : H1.size = s.heap.size + 5 := z1.trans (congrArg (· + 1) hH)
  have hP : nw D vcl ((fun i => i < 6)) ad (mdW cy ad [.int (nI 0), .int (bI false), .ref (ad 1), .int (nI 0), .int (bI false), .int (nI 0), .int (nI 0), .ref (ad 2), .ref (ad 3), .ref (ad 4), .null, .null, .int (nI 0), .int (nI 0), .null, .int (nI 0)]) H1 := nw_congr hP (mdW_i 5 _ rfl)
  generalize H1 = H at hP hS hH ⊢
  refine nw_putF (D := D) (ci := 5) (C := R_Mo) (T := T_Mo) (N := 16) hx hb hts in_Mo ty_Mo tk_Mo nm_Mo hown hK.k hP hD hS (i := 0) (Nat.zero_lt_succ _) mdW_at rfl 10 (by decide) (hts _ kf_Mo_24) rfl hnm rfl rfl rfl (Nat.le_of_ble_eq_true rfl) d_Mo_init_42 (fun H locs hP hS hz hq => ?_)
  have hP : nw D vcl (fun i => i < 6) ad (mdW cy ad [.int (nI 0), .int (bI false), .ref (ad 1), .int (nI 0), .int (bI false), .int (nI 0), .int (nI 0), .ref (ad 2), .ref (ad 3), .ref (ad 4), .ref (ad 5), .null, .int (nI 0), .int (nI 0), .null, .int (nI 0)]) H := nw_congr hP (mdW_0)
  have hH : H.size = s.heap.size + 5 := hz.trans hH
  refine lv_aload_n hx hb d_Mo_init_45 rfl (lv_at hl 0 rfl) ?_
  refine lv_bipush (v := nI 24) hx hb d_Mo_init_46 (by decide) ?_
  refine nf_newr (atype := .int) hx hb (hts _ ka_int) (ty := .int) rfl hP hD hS hA (hK.k.2 1 _ rfl).2 (N' := 24) (a0 := (24, .inl (fun _ => nI 0))) (vpc_int _) (by decide) (by decide) (by decide) (Nat.le_of_ble_eq_true rfl) (Nat.le_of_ble_eq_true rfl) d_Mo_init_48 6 ((fun i => i < 7)) (fun j h hne => Nat.lt_of_le_of_ne (Nat.le_of_lt_succ h) hne) (a6.trans hH.symm) (inj (Nat.le_of_ble_eq_true rfl)) (fun H1 z1 hP hD hS => ?_)
  have hH : H1.size = s.heap.size + 6 := z1.trans (congrArg (· + 1) hH)
  have hP : nw D vcl ((fun i => i < 7)) ad (mdW cy ad [.int (nI 0), .int (bI false), .ref (ad 1), .int (nI 0), .int (bI false), .int (nI 0), .int (nI 0), .ref (ad 2), .ref (ad 3), .ref (ad 4), .ref (ad 5), .null, .int (nI 0), .int (nI 0), .null, .int (nI 0)]) H1 := nw_congr hP (mdW_i 6 _ rfl)
  generalize H1 = H at hP hS hH ⊢
  refine nw_putF (D := D) (ci := 5) (C := R_Mo) (T := T_Mo) (N := 16) hx hb hts in_Mo ty_Mo tk_Mo nm_Mo hown hK.k hP hD hS (i := 0) (Nat.zero_lt_succ _) mdW_at rfl 11 (by decide) (hts _ kf_Mo_27) rfl hnm rfl rfl rfl (Nat.le_of_ble_eq_true rfl) d_Mo_init_50 (fun H locs hP hS hz hq => ?_)
  have hP : nw D vcl (fun i => i < 7) ad (mdW cy ad [.int (nI 0), .int (bI false), .ref (ad 1), .int (nI 0), .int (bI false), .int (nI 0), .int (nI 0), .ref (ad 2), .ref (ad 3), .ref (ad 4), .ref (ad 5), .ref (ad 6), .int (nI 0), .int (nI 0), .null, .int (nI 0)]) H := nw_congr hP (mdW_0)
  have hH : H.size = s.heap.size + 6 := hz.trans hH
  refine lv_aload_n hx hb d_Mo_init_53 rfl (lv_at hl 0 rfl) ?_
  refine lv_iconst (v := -1) hx hb d_Mo_init_54 (by decide) ?_
  refine lv_eqi (y := oI none) rfl ?_
  refine nw_put (D := D) (ci := 5) (C := R_Mo) (T := T_Mo) (N := 16) hx hb hts in_Mo ty_Mo tk_Mo nm_Mo hown hK.k hP hD hS (i := 0) (Nat.zero_lt_succ _) mdW_at rfl 13 (by decide) (hts _ kf_Mo_30) rfl rfl rfl (Nat.le_of_ble_eq_true rfl) d_Mo_init_55 (fun H locs hP hS hz hq => ?_)
  have hP : nw D vcl (fun i => i < 7) ad (mdW cy ad [.int (nI 0), .int (bI false), .ref (ad 1), .int (nI 0), .int (bI false), .int (nI 0), .int (nI 0), .ref (ad 2), .ref (ad 3), .ref (ad 4), .ref (ad 5), .ref (ad 6), .int (nI 0), .int (oI none), .null, .int (nI 0)]) H := nw_congr hP (mdW_0)
  have hH : H.size = s.heap.size + 6 := hz.trans hH
  refine lv_aload_n hx hb d_Mo_init_58 rfl (lv_at hl 0 rfl) ?_
  refine lv_ldc hx hb hown (hts _ k_c489) d_Mo_init_59 ?_
  refine lv_eqi (y := nI 48960) k_l489.symm ?_
  refine nf_newr (atype := .byte) hx hb (hts _ ka_byte) (ty := .byte) rfl hP hD hS hA (hK.k.2 0 _ rfl).2 (N' := 48960) (a0 := (48960, .inl (fun _ => sb_b 0))) (vpc_byte _) (by decide) k_n489 (by decide) (Nat.le_of_ble_eq_true rfl) (Nat.le_of_ble_eq_true rfl) d_Mo_init_61 7 ((fun i => i < 8)) (fun j h hne => Nat.lt_of_le_of_ne (Nat.le_of_lt_succ h) hne) (a7.trans hH.symm) (inj (Nat.le_of_ble_eq_true rfl)) (fun H1 z1 hP hD hS => ?_)
  have hH : H1.size = s.heap.size + 7 := z1.trans (congrArg (· + 1) hH)
  have hP : nw D vcl ((fun i => i < 8)) ad (mdW cy ad [.int (nI 0), .int (bI false), .ref (ad 1), .int (nI 0), .int (bI false), .int (nI 0), .int (nI 0), .ref (ad 2), .ref (ad 3), .ref (ad 4), .ref (ad 5), .ref (ad 6), .int (nI 0), .int (oI none), .null, .int (nI 0)]) H1 := nw_congr hP (mdW_i 7 _ rfl)
  generalize H1 = H at hP hS hH ⊢
  refine nw_putF (D := D) (ci := 5) (C := R_Mo) (T := T_Mo) (N := 16) hx hb hts in_Mo ty_Mo tk_Mo nm_Mo hown hK.k hP hD hS (i := 0) (Nat.zero_lt_succ _) mdW_at rfl 14 (by decide) (hts _ kf_Mo_35) rfl hnm rfl rfl rfl (Nat.le_of_ble_eq_true rfl) d_Mo_init_63 (fun H locs hP hS hz hq => ?_)
  have hP : nw D vcl (fun i => i < 8) ad (mdW cy ad [.int (nI 0), .int (bI false), .ref (ad 1), .int (nI 0), .int (bI false), .int (nI 0), .int (nI 0), .ref (ad 2), .ref (ad 3), .ref (ad 4), .ref (ad 5), .ref (ad 6), .int (nI 0), .int (oI none), .ref (ad 7), .int (nI 0)]) H := nw_congr hP (mdW_0)
  have hH : H.size = s.heap.size + 7 := hz.trans hH
  have hP : nw D vcl PM ad (mdC cy ad 0 false (fun _ => 0) 0 false 0 0 (fun _ => 0) (fun _ => 0) (fun _ => false) (fun _ => 0) (fun _ => 0) 0 none (fun _ => 0) 0) H := nw_congr hP (fun i hi => by by_cases h : i = 0; (subst h; rfl); simp only [mdW, if_neg h])
  exact end_C F hr hlk hP hH hS d_Mo_init_66

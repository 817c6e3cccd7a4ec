/-! TornLogModel: recordAt, record, word -/
/-- where record q of those from a0 on stands -/
def plM (ro : Nat → Nat) (a0 : Nat) : Nat → Nat
  | 0 => a0
  | q + 1 => plM ro a0 q + (9 + (ro (plM ro a0 q + 1) + num ro (plM ro a0 q + 2) 2))
theorem sb_low : ∀ c, c < 128 → sb_b c = nI c := by decide +kernel
set_option maxRecDepth 100000 in
set_option maxHeartbeats 4000000 in
theorem c_Mo_recordAtN (l : Launch) (D : va_G) (cy : Nat → ClassId) (ad : Nat → Nat) (fl tn cp cb bn fo : Nat) (dn w : Bool) (tp we be co fi ro : Nat → Nat) (lg : Nat → Bool) (op : Option Nat) (x : Int32) (hx0 : x < 0) : mtI l y_Mo_recordAt b_Mo_recordAt 5 (some .int) { frames := 2, cells := 0, slots := 0, locals := 45 } D cy [.ref (ad 0), .int (x)] PM ad (mdC cy ad fl dn tp tn w cp cb we be lg co fi bn op ro fo) (mdC cy ad fl dn tp tn w cp cb we be lg co fi bn op ro fo) (-1) := by
  intro sz
  refine nm_ofW (cc := b_Mo_recordAt) (maxL := 5) (ret := (some .int)) (own := R_Mo) (by decide) (Nat.le_of_ble_eq_true rfl) rfl ?_
  intro p e s m below meth c ls F hr hlk hnm hv hl
  obtain ⟨hx, hb, hml, hown, hts⟩ := id F
  obtain ⟨rfl, hP, hK, hI⟩ := hv
  have hD : nd (na PM ad s.heap.size) PM ad := nd_self hI
  have hA : ∀ q, s.heap.size ≤ q → na PM ad s.heap.size q := fun q h => Or.inr h
  have hS : va_S (na PM ad s.heap.size) s.heap s.heap [] := va_S.rf
  have hl : lv_has ls 5 [(0, .ref (ad 0)), (1, .int (x))] := hl
  refine lv_iload_n hx hb d_Mo_recordAt_0 rfl (lv_at hl 1 rfl) ?_
  refine lv_if_ge (tgt := 6) hx hb d_Mo_recordAt_1 (by decide) (fun c1 => absurd c1 (Int32.not_le.mpr hx0)) (fun c1 => ?_)
  refine lv_iconst (v := -1) hx hb d_Mo_recordAt_4 (by decide) ?_
  exact end_I F hr hlk rfl hP hS d_Mo_recordAt_5
set_option maxRecDepth 100000 in
set_option maxHeartbeats 4000000 in
theorem c_Mo_recordAt0 (l : Launch) (D : va_G) (cy : Nat → ClassId) (ad : Nat → Nat) (fl tn cp cb bn fo : Nat) (dn w : Bool) (tp we be co fi ro : Nat → Nat) (lg : Nat → Bool) (op : Option Nat) (i : Nat) (hi31 : i < 2 ^ 31) (r : Nat → Nat) (ln : Nat) (hln : cntL lg 24 = ln) (hrow : ∀ t, t < ln → bAt lg be t 24 0 = some (r t) ∧ r t < 24) (HB : ∀ b, b < 24 → be b < 2 ^ 31) (HQ : ∀ b, b < 24 → co b < 2 ^ 16) (HO : ∀ j, j < 48960 → ro j < 256) (HP : ∀ t, t < ln → ∀ q, q < co (r t) → plM ro (2040 * r t) q + 9 ≤ 48960) (hf : fdR co r ln 0 i = none) : mtI l y_Mo_recordAt b_Mo_recordAt 5 (some .int) { frames := 2, cells := 0, slots := 0, locals := 45 } D cy [.ref (ad 0), .int (nI i)] PM ad (mdC cy ad fl dn tp tn w cp cb we be lg co fi bn op ro fo) (mdC cy ad fl dn tp tn w cp cb we be lg co fi bn op ro ln) (-1) := by
  intro sz
  refine nm_ofW (cc := b_Mo_recordAt) (maxL := 5) (ret := (some .int)) (own := R_Mo) (by decide) (Nat.le_of_ble_eq_true rfl) rfl ?_
  intro p e s m below meth c ls F hr hlk hnm hv hl
  obtain ⟨hx, hb, hml, hown, hts⟩ := id F
  obtain ⟨rfl, hP, hK, hI⟩ := hv
  have hD : nd (na PM ad s.heap.size) PM ad := nd_self hI
  have hA : ∀ q, s.heap.size ≤ q → na PM ad s.heap.size q := fun q h => Or.inr h
  have hS : va_S (na PM ad s.heap.size) s.heap s.heap [] := va_S.rf
  have hl : lv_has ls 5 [(0, .ref (ad 0)), (1, .int (nI i))] := hl
  have hcl := cntL_le lg 24
  refine lv_iload_n hx hb d_Mo_recordAt_0 rfl (lv_at hl 1 rfl) ?_
  refine lv_if_ge (tgt := 6) hx hb d_Mo_recordAt_1 (by decide) (fun c1 => ?_) (fun c1 => absurd (nI_pos' (by omega)) c1)
  refine lv_iload_n hx hb d_Mo_recordAt_6 rfl (lv_at hl 1 rfl) ?_
  refine lv_istore_n (lv' := [(2, .int (nI i)), (0, .ref (ad 0)), (1, .int (nI i))]) hx hb d_Mo_recordAt_7 rfl hl (by decide) rfl (fun ls hl => ?_)
  refine lv_aload_n hx hb d_Mo_recordAt_8 rfl (lv_at hl 1 rfl) ?_
  refine lv_iconst (v := nI 0) hx hb d_Mo_recordAt_9 (by decide) ?_
  refine nw_put (D := D) (ci := 5) (C := R_Mo) (T := T_Mo) (N := 16) hx hb hts in_Mo ty_Mo tk_Mo nm_Mo hown hK.k hP hD hS (i := 0) (by decide) md_0 rfl 15 (by decide) (hts _ kf_Mo_85) rfl rfl rfl (Nat.le_of_ble_eq_true rfl) d_Mo_recordAt_10 (fun H locs hP hS hz hq => ?_)
  have hP : nw D vcl PM ad (mdC cy ad fl dn tp tn w cp cb we be lg co fi bn op ro 0) H := nw_congr hP (mdu_fo)
  have loop : ∀ (j t : Nat), t + j = ln → ∀ q : Nat, q < 2 ^ 31 → fdR co r ln 0 i = fdR co r j t q → ∀ (H : Heap) (locs : List Loc) (ls : Array Slot), nw D vcl PM ad (mdC cy ad fl dn tp tn w cp cb we be lg co fi bn op ro t) H → va_S (na PM ad s.heap.size) s.heap H locs → lv_has ls 5 [(2, .int (nI q)), (0, .ref (ad 0)), (1, .int (nI i))] → W p l e { frames := 2, cells := 0, slots := 0, locals := 45 } s m [.ref (ad 0), .int (nI i)].toArray below meth c H locs 0 0 (MQ below (va_Qi (fun r' (_ : Unit) => r' = -1) (fun _ t => nw D vcl PM ad (mdC cy ad fl dn tp tn w cp cb we be lg co fi bn op ro ln) t.heap) (na PM ad s.heap.size)) [.ref (ad 0), .int (nI i)].toArray s 0 0 (na PM ad s.heap.size)) (F0 m 13 ls []) := by
    intro j
    induction j with
    | zero =>
      intro t hi q hq he H locs ls hP hS hl
      obtain rfl : t = ln := by omega
      refine lv_aload_n hx hb d_Mo_recordAt_13 rfl (lv_at hl 1 rfl) ?_
      refine nw_get (D := D) (ci := 5) (C := R_Mo) (T := T_Mo) (N := 16) hx hb hts in_Mo hown hK.k hP (i := 0) (by decide) md_0 rfl 15 (by decide) (hts _ kf_Mo_85) rfl d_Mo_recordAt_14 ?_
      refine lv_aload_n hx hb d_Mo_recordAt_17 rfl (lv_at hl 1 rfl) ?_
      refine call_R (As := []) (rest := [.int (nI t)]) F hK (c_Mo_blocks l D cy ad fl tn cp cb bn t dn w tp we be co fi ro lg op) km_Mo_67 ki_Mo_blocks ks_Mo_blocks k0_Mo kc_Mo_blocks kd_Mo_blocks ⟨Nat.le_of_ble_eq_true rfl, Nat.le_of_ble_eq_true rfl⟩ (nw_recv hK.k hP (i := 0) (by decide) md_0 rfl) (hP) (hI) hl.1 rfl (Nat.le_of_ble_eq_true rfl) d_Mo_recordAt_18 ⟨(Nat.le_of_ble_eq_true rfl), (Nat.le_of_ble_eq_true rfl)⟩ hS (fun H1 locs1 hN hS => ?_)
      have hP := hN _ _ _ hP
      generalize H1 = H at hP hS ⊢
      refine lv_eqi (y := nI t) (by rw [hln]) ?_
      refine lv_icmp_ge (tgt := 102) hx hb d_Mo_recordAt_21 (by decide) (fun c21 => ?_) (fun c21 => absurd ((nI_leI (by omega) (by omega)).mpr (by omega)) c21)
      refine lv_iconst (v := -1) hx hb d_Mo_recordAt_102 (by decide) ?_
      exact end_I F hr hlk rfl hP hS d_Mo_recordAt_103
    | succ j ih =>
      intro t hi q hq he H locs ls hP hS hl
      have ht : t < ln := by omega
      obtain ⟨hr1, hr2⟩ := hrow t ht
      have hq0 := HQ _ hr2
      refine lv_aload_n hx hb d_Mo_recordAt_13 rfl (lv_at hl 1 rfl) ?_
      refine nw_get (D := D) (ci := 5) (C := R_Mo) (T := T_Mo) (N := 16) hx hb hts in_Mo hown hK.k hP (i := 0) (by decide) md_0 rfl 15 (by decide) (hts _ kf_Mo_85) rfl d_Mo_recordAt_14 ?_
      refine lv_aload_n hx hb d_Mo_recordAt_17 rfl (lv_at hl 1 rfl) ?_
      refine call_R (As := []) (rest := [.int (nI t)]) F hK (c_Mo_blocks l D cy ad fl tn cp cb bn t dn w tp we be co fi ro lg op) km_Mo_67 ki_Mo_blocks ks_Mo_blocks k0_Mo kc_Mo_blocks kd_Mo_blocks ⟨Nat.le_of_ble_eq_true rfl, Nat.le_of_ble_eq_true rfl⟩ (nw_recv hK.k hP (i := 0) (by decide) md_0 rfl) (hP) (hI) hl.1 rfl (Nat.le_of_ble_eq_true rfl) d_Mo_recordAt_18 ⟨(Nat.le_of_ble_eq_true rfl), (Nat.le_of_ble_eq_true rfl)⟩ hS (fun H1 locs1 hN hS => ?_)
      have hP := hN _ _ _ hP
      generalize H1 = H at hP hS ⊢
      refine lv_eqi (y := nI ln) (by rw [hln]) ?_
      refine lv_icmp_ge (tgt := 102) hx hb d_Mo_recordAt_21 (by decide) (fun c21 => absurd c21 (fun z => absurd ((nI_leI (by omega) (by omega)).mp z) (by omega))) (fun c21 => ?_)
      refine lv_aload_n hx hb d_Mo_recordAt_24 rfl (lv_at hl 1 rfl) ?_
      refine lv_aload_n hx hb d_Mo_recordAt_25 rfl (lv_at hl 1 rfl) ?_
      refine nw_get (D := D) (ci := 5) (C := R_Mo) (T := T_Mo) (N := 16) hx hb hts in_Mo hown hK.k hP (i := 0) (by decide) md_0 rfl 15 (by decide) (hts _ kf_Mo_85) rfl d_Mo_recordAt_26 ?_
      refine call_R (As := [.int (nI t)]) (rest := []) F hK (c_Mo_blockAt l D cy ad fl tn cp cb bn t dn w tp we be co fi ro lg op t (by omega) HB) km_Mo_75 ki_Mo_blockAt ks_Mo_blockAt k0_Mo kc_Mo_blockAt kd_Mo_blockAt ⟨Nat.le_of_ble_eq_true rfl, Nat.le_of_ble_eq_true rfl⟩ (nw_recv hK.k hP (i := 0) (by decide) md_0 rfl) (hP) (hI) hl.1 rfl (Nat.le_of_ble_eq_true rfl) d_Mo_recordAt_29 ⟨(Nat.le_of_ble_eq_true rfl), (Nat.le_of_ble_eq_true rfl)⟩ hS (fun H1 locs1 hN hS => ?_)
      have hP := hN _ _ _ hP
      generalize H1 = H at hP hS ⊢
      refine lv_eqi (y := nI (r t)) (by rw [hr1]; rfl) ?_
      refine lv_istore_n (lv' := [(3, .int (nI (r t))), (2, .int (nI q)), (0, .ref (ad 0)), (1, .int (nI i))]) hx hb d_Mo_recordAt_32 rfl hl (by decide) rfl (fun ls hl => ?_)
      refine lv_iload_n hx hb d_Mo_recordAt_33 rfl (lv_at hl 1 rfl) ?_
      refine lv_aload_n hx hb d_Mo_recordAt_34 rfl (lv_at hl 2 rfl) ?_
      refine nw_get (D := D) (ci := 5) (C := R_Mo) (T := T_Mo) (N := 16) hx hb hts in_Mo hown hK.k hP (i := 0) (by decide) md_0 rfl 10 (by decide) (hts _ kf_Mo_24) rfl d_Mo_recordAt_35 ?_
      refine lv_iload_n hx hb d_Mo_recordAt_38 rfl (lv_at hl 0 rfl) ?_
      refine nw_iald hx hb hK.k hP (i := 5) (by decide) md_5 1 rfl (vp_in_nI (by omega) (by omega)) d_Mo_recordAt_39 ?_
      refine lv_eqi (y := nI (co (r t))) (by rw [nI_clamp (by omega)]) ?_
      refine lv_icmp_lt (tgt := 55) hx hb d_Mo_recordAt_40 (by decide) (fun c40 => ?_) (fun c40 => ?_)
      · have c40 := (nI_ltI (by omega) (by omega)).mp c40
        exfalso
        rw [hf] at he
        simp [fdR, c40] at he
      · have c40 := mt (nI_ltI (by omega) (by omega)).mpr c40
        refine lv_iload_n hx hb d_Mo_recordAt_43 rfl (lv_at hl 1 rfl) ?_
        refine lv_aload_n hx hb d_Mo_recordAt_44 rfl (lv_at hl 2 rfl) ?_
        refine nw_get (D := D) (ci := 5) (C := R_Mo) (T := T_Mo) (N := 16) hx hb hts in_Mo hown hK.k hP (i := 0) (by decide) md_0 rfl 10 (by decide) (hts _ kf_Mo_24) rfl d_Mo_recordAt_45 ?_
        refine lv_iload_n hx hb d_Mo_recordAt_48 rfl (lv_at hl 0 rfl) ?_
        refine nw_iald hx hb hK.k hP (i := 5) (by decide) md_5 1 rfl (vp_in_nI (by omega) (by omega)) d_Mo_recordAt_49 ?_
        refine lv_eqi (y := nI (co (r t))) (by rw [nI_clamp (by omega)]) ?_
        refine lv_isub hx hb d_Mo_recordAt_50 ?_
        refine lv_eqi (pk_sub (by omega)) ?_
        refine lv_istore_n (lv' := [(2, .int (nI (q - (co (r t))))), (3, .int (nI (r t))), (0, .ref (ad 0)), (1, .int (nI i))]) hx hb d_Mo_recordAt_51 rfl hl (by decide) rfl (fun ls hl => ?_)
        refine lv_goto (tgt := 89) hx hb d_Mo_recordAt_52 (by decide) ?_
        refine lv_aload_n hx hb d_Mo_recordAt_89 rfl (lv_at hl 2 rfl) ?_
        refine lv_dup hx hb d_Mo_recordAt_90 rfl ?_
        refine nw_get (D := D) (ci := 5) (C := R_Mo) (T := T_Mo) (N := 16) hx hb hts in_Mo hown hK.k hP (i := 0) (by decide) md_0 rfl 15 (by decide) (hts _ kf_Mo_85) rfl d_Mo_recordAt_91 ?_
        refine lv_iconst (v := nI 1) hx hb d_Mo_recordAt_94 (by decide) ?_
        refine lv_iadd hx hb d_Mo_recordAt_95 ?_
        refine lv_eqi (nI_add _ _) ?_
        refine nw_put (D := D) (ci := 5) (C := R_Mo) (T := T_Mo) (N := 16) hx hb hts in_Mo ty_Mo tk_Mo nm_Mo hown hK.k hP hD hS (i := 0) (by decide) md_0 rfl 15 (by decide) (hts _ kf_Mo_85) rfl rfl rfl (Nat.le_of_ble_eq_true rfl) d_Mo_recordAt_96 (fun H locs hP hS hz hq => ?_)
        have hP : nw D vcl PM ad (mdC cy ad fl dn tp tn w cp cb we be lg co fi bn op ro ((t + 1))) H := nw_congr hP (mdu_fo)
        refine lv_goto (tgt := 13) hx hb d_Mo_recordAt_99 (by decide) ?_
        exact ih (t + 1) (by omega) (q - co (r t)) (by omega) (he.trans (by simp only [fdR, if_neg (show ¬ q < co (r t) by omega)])) _ _ _ hP hS (lv_sub hl [0, 2, 3] rfl)
  exact loop ln 0 (by omega) i hi31 rfl _ _ _ hP hS (lv_sub hl [0, 1, 2] rfl)
set_option maxRecDepth 100000 in
set_option maxHeartbeats 4000000 in
theorem c_Mo_recordAt1 (l : Launch) (D : va_G) (cy : Nat → ClassId) (ad : Nat → Nat) (fl tn cp cb bn fo : Nat) (dn w : Bool) (tp we be co fi ro : Nat → Nat) (lg : Nat → Bool) (op : Option Nat) (i : Nat) (hi31 : i < 2 ^ 31) (r : Nat → Nat) (ln : Nat) (hln : cntL lg 24 = ln) (hrow : ∀ t, t < ln → bAt lg be t 24 0 = some (r t) ∧ r t < 24) (HB : ∀ b, b < 24 → be b < 2 ^ 31) (HQ : ∀ b, b < 24 → co b < 2 ^ 16) (HO : ∀ j, j < 48960 → ro j < 256) (HP : ∀ t, t < ln → ∀ q, q < co (r t) → plM ro (2040 * r t) q + 9 ≤ 48960) (t0 q0 : Nat) (hf : fdR co r ln 0 i = some (t0, q0)) : mtI l y_Mo_recordAt b_Mo_recordAt 5 (some .int) { frames := 2, cells := 0, slots := 0, locals := 45 } D cy [.ref (ad 0), .int (nI i)] PM ad (mdC cy ad fl dn tp tn w cp cb we be lg co fi bn op ro fo) (mdC cy ad fl dn tp tn w cp cb we be lg co fi bn op ro t0) (nI (plM ro (2040 * r t0) q0)) := by
  intro sz
  refine nm_ofW (cc := b_Mo_recordAt) (maxL := 5) (ret := (some .int)) (own := R_Mo) (by decide) (Nat.le_of_ble_eq_true rfl) rfl ?_
  intro p e s m below meth c ls F hr hlk hnm hv hl
  obtain ⟨hx, hb, hml, hown, hts⟩ := id F
  obtain ⟨rfl, hP, hK, hI⟩ := hv
  have hD : nd (na PM ad s.heap.size) PM ad := nd_self hI
  have hA : ∀ q, s.heap.size ≤ q → na PM ad s.heap.size q := fun q h => Or.inr h
  have hS : va_S (na PM ad s.heap.size) s.heap s.heap [] := va_S.rf
  have hl : lv_has ls 5 [(0, .ref (ad 0)), (1, .int (nI i))] := hl
  have hcl := cntL_le lg 24
  refine lv_iload_n hx hb d_Mo_recordAt_0 rfl (lv_at hl 1 rfl) ?_
  refine lv_if_ge (tgt := 6) hx hb d_Mo_recordAt_1 (by decide) (fun c1 => ?_) (fun c1 => absurd (nI_pos' (by omega)) c1)
  refine lv_iload_n hx hb d_Mo_recordAt_6 rfl (lv_at hl 1 rfl) ?_
  refine lv_istore_n (lv' := [(2, .int (nI i)), (0, .ref (ad 0)), (1, .int (nI i))]) hx hb d_Mo_recordAt_7 rfl hl (by decide) rfl (fun ls hl => ?_)
  refine lv_aload_n hx hb d_Mo_recordAt_8 rfl (lv_at hl 1 rfl) ?_
  refine lv_iconst (v := nI 0) hx hb d_Mo_recordAt_9 (by decide) ?_
  refine nw_put (D := D) (ci := 5) (C := R_Mo) (T := T_Mo) (N := 16) hx hb hts in_Mo ty_Mo tk_Mo nm_Mo hown hK.k hP hD hS (i := 0) (by decide) md_0 rfl 15 (by decide) (hts _ kf_Mo_85) rfl rfl rfl (Nat.le_of_ble_eq_true rfl) d_Mo_recordAt_10 (fun H locs hP hS hz hq => ?_)
  have hP : nw D vcl PM ad (mdC cy ad fl dn tp tn w cp cb we be lg co fi bn op ro 0) H := nw_congr hP (mdu_fo)
  have loop : ∀ (j t : Nat), t + j = ln → ∀ q : Nat, q < 2 ^ 31 → fdR co r ln 0 i = fdR co r j t q → ∀ (H : Heap) (locs : List Loc) (ls : Array Slot), nw D vcl PM ad (mdC cy ad fl dn tp tn w cp cb we be lg co fi bn op ro t) H → va_S (na PM ad s.heap.size) s.heap H locs → lv_has ls 5 [(2, .int (nI q)), (0, .ref (ad 0)), (1, .int (nI i))] → W p l e { frames := 2, cells := 0, slots := 0, locals := 45 } s m [.ref (ad 0), .int (nI i)].toArray below meth c H locs 0 0 (MQ below (va_Qi (fun r' (_ : Unit) => r' = nI (plM ro (2040 * r t0) q0)) (fun _ t => nw D vcl PM ad (mdC cy ad fl dn tp tn w cp cb we be lg co fi bn op ro t0) t.heap) (na PM ad s.heap.size)) [.ref (ad 0), .int (nI i)].toArray s 0 0 (na PM ad s.heap.size)) (F0 m 13 ls []) := by
    intro j
    induction j with
    | zero =>
      intro t hi q hq he H locs ls hP hS hl
      exfalso
      rw [hf] at he
      simp [fdR] at he
    | succ j ih =>
      intro t hi q hq he H locs ls hP hS hl
      have ht : t < ln := by omega
      obtain ⟨hr1, hr2⟩ := hrow t ht
      have hq0 := HQ _ hr2
      refine lv_aload_n hx hb d_Mo_recordAt_13 rfl (lv_at hl 1 rfl) ?_
      refine nw_get (D := D) (ci := 5) (C := R_Mo) (T := T_Mo) (N := 16) hx hb hts in_Mo hown hK.k hP (i := 0) (by decide) md_0 rfl 15 (by decide) (hts _ kf_Mo_85) rfl d_Mo_recordAt_14 ?_
      refine lv_aload_n hx hb d_Mo_recordAt_17 rfl (lv_at hl 1 rfl) ?_
      refine call_R (As := []) (rest := [.int (nI t)]) F hK (c_Mo_blocks l D cy ad fl tn cp cb bn t dn w tp we be co fi ro lg op) km_Mo_67 ki_Mo_blocks ks_Mo_blocks k0_Mo kc_Mo_blocks kd_Mo_blocks ⟨Nat.le_of_ble_eq_true rfl, Nat.le_of_ble_eq_true rfl⟩ (nw_recv hK.k hP (i := 0) (by decide) md_0 rfl) (hP) (hI) hl.1 rfl (Nat.le_of_ble_eq_true rfl) d_Mo_recordAt_18 ⟨(Nat.le_of_ble_eq_true rfl), (Nat.le_of_ble_eq_true rfl)⟩ hS (fun H1 locs1 hN hS => ?_)
      have hP := hN _ _ _ hP
      generalize H1 = H at hP hS ⊢
      refine lv_eqi (y := nI ln) (by rw [hln]) ?_
      refine lv_icmp_ge (tgt := 102) hx hb d_Mo_recordAt_21 (by decide) (fun c21 => absurd c21 (fun z => absurd ((nI_leI (by omega) (by omega)).mp z) (by omega))) (fun c21 => ?_)
      refine lv_aload_n hx hb d_Mo_recordAt_24 rfl (lv_at hl 1 rfl) ?_
      refine lv_aload_n hx hb d_Mo_recordAt_25 rfl (lv_at hl 1 rfl) ?_
      refine nw_get (D := D) (ci := 5) (C := R_Mo) (T := T_Mo) (N := 16) hx hb hts in_Mo hown hK.k hP (i := 0) (by decide) md_0 rfl 15 (by decide) (hts _ kf_Mo_85) rfl d_Mo_recordAt_26 ?_
      refine call_R (As := [.int (nI t)]) (rest := []) F hK (c_Mo_blockAt l D cy ad fl tn cp cb bn t dn w tp we be co fi ro lg op t (by omega) HB) km_Mo_75 ki_Mo_blockAt ks_Mo_blockAt k0_Mo kc_Mo_blockAt kd_Mo_blockAt ⟨Nat.le_of_ble_eq_true rfl, Nat.le_of_ble_eq_true rfl⟩ (nw_recv hK.k hP (i := 0) (by decide) md_0 rfl) (hP) (hI) hl.1 rfl (Nat.le_of_ble_eq_true rfl) d_Mo_recordAt_29 ⟨(Nat.le_of_ble_eq_true rfl), (Nat.le_of_ble_eq_true rfl)⟩ hS (fun H1 locs1 hN hS => ?_)
      have hP := hN _ _ _ hP
      generalize H1 = H at hP hS ⊢
      refine lv_eqi (y := nI (r t)) (by rw [hr1]; rfl) ?_
      refine lv_istore_n (lv' := [(3, .int (nI (r t))), (2, .int (nI q)), (0, .ref (ad 0)), (1, .int (nI i))]) hx hb d_Mo_recordAt_32 rfl hl (by decide) rfl (fun ls hl => ?_)
      refine lv_iload_n hx hb d_Mo_recordAt_33 rfl (lv_at hl 1 rfl) ?_
      refine lv_aload_n hx hb d_Mo_recordAt_34 rfl (lv_at hl 2 rfl) ?_
      refine nw_get (D := D) (ci := 5) (C := R_Mo) (T := T_Mo) (N := 16) hx hb hts in_Mo hown hK.k hP (i := 0) (by decide) md_0 rfl 10 (by decide) (hts _ kf_Mo_24) rfl d_Mo_recordAt_35 ?_
      refine lv_iload_n hx hb d_Mo_recordAt_38 rfl (lv_at hl 0 rfl) ?_
      refine nw_iald hx hb hK.k hP (i := 5) (by decide) md_5 1 rfl (vp_in_nI (by omega) (by omega)) d_Mo_recordAt_39 ?_
      refine lv_eqi (y := nI (co (r t))) (by rw [nI_clamp (by omega)]) ?_
      refine lv_icmp_lt (tgt := 55) hx hb d_Mo_recordAt_40 (by decide) (fun c40 => ?_) (fun c40 => ?_)
      · have c40 := (nI_ltI (by omega) (by omega)).mp c40
        have he1 : some (t0, q0) = some (t, q) := by rw [← hf, he]; simp only [fdR, if_pos c40]
        obtain ⟨rfl, rfl⟩ : t0 = t ∧ q0 = q := by simpa using he1
        have hP0 := HP _ ht
        refine lv_sipush (v := nI 2040) hx hb d_Mo_recordAt_55 (by decide) ?_
        refine lv_iload_n hx hb d_Mo_recordAt_58 rfl (lv_at hl 0 rfl) ?_
        refine lv_imul hx hb d_Mo_recordAt_59 ?_
        refine lv_eqi (pk_mul _ _) ?_
        refine lv_istore (lv' := [(4, .int (nI (2040 * (r t0)))), (3, .int (nI (r t0))), (2, .int (nI q0)), (0, .ref (ad 0)), (1, .int (nI i))]) hx hb d_Mo_recordAt_60 hl (by decide) rfl (fun ls hl => ?_)
        have inner : ∀ (d u : Nat), u + d = q0 → ∀ (H : Heap) (locs : List Loc) (ls : Array Slot), nw D vcl PM ad (mdC cy ad fl dn tp tn w cp cb we be lg co fi bn op ro t0) H → va_S (na PM ad s.heap.size) s.heap H locs → lv_has ls 5 [(4, .int (nI (plM ro (2040 * r t0) u))), (2, .int (nI (q0 - u))), (3, .int (nI (r t0))), (0, .ref (ad 0)), (1, .int (nI i))] → W p l e { frames := 2, cells := 0, slots := 0, locals := 45 } s m [.ref (ad 0), .int (nI i)].toArray below meth c H locs 0 0 (MQ below (va_Qi (fun r' (_ : Unit) => r' = nI (plM ro (2040 * r t0) q0)) (fun _ t => nw D vcl PM ad (mdC cy ad fl dn tp tn w cp cb we be lg co fi bn op ro t0) t.heap) (na PM ad s.heap.size)) [.ref (ad 0), .int (nI i)].toArray s 0 0 (na PM ad s.heap.size)) (F0 m 62 ls []) := by
          intro d
          induction d with
          | zero =>
            intro u hu H locs ls hP hS hl
            obtain rfl : u = q0 := by omega
            refine lv_iload_n hx hb d_Mo_recordAt_62 rfl (lv_at hl 1 rfl) ?_
            refine lv_if_le (tgt := 86) hx hb d_Mo_recordAt_63 (by decide) (fun c63 => ?_) (fun c63 => absurd ((nI_zl (by omega)).mpr (by omega)) c63)
            refine lv_iload hx hb d_Mo_recordAt_86 (lv_at hl 0 rfl) ?_
            exact end_I F hr hlk rfl hP hS d_Mo_recordAt_88
          | succ d ihd =>
            intro u hu H locs ls hP hS hl
            have hp1 := hP0 u (by omega)
            refine lv_iload_n hx hb d_Mo_recordAt_62 rfl (lv_at hl 1 rfl) ?_
            refine lv_if_le (tgt := 86) hx hb d_Mo_recordAt_63 (by decide) (fun c63 => absurd c63 (fun z => absurd ((nI_zl (by omega)).mp z) (by omega))) (fun c63 => ?_)
            refine lv_iload hx hb d_Mo_recordAt_66 (lv_at hl 0 rfl) ?_
            refine lv_bipush (v := nI 9) hx hb d_Mo_recordAt_68 (by decide) ?_
            refine lv_aload_n hx hb d_Mo_recordAt_70 rfl (lv_at hl 3 rfl) ?_
            refine lv_iload hx hb d_Mo_recordAt_71 (lv_at hl 0 rfl) ?_
            refine call_R (As := [.int (nI (plM ro (2040 * r t0) u))]) (rest := [.int (nI 9), .int (nI (plM ro (2040 * r t0) u))]) F hK (c_Mo_sizeAt l D cy ad fl tn cp cb bn t0 dn w tp we be co fi ro lg op (plM ro (2040 * r t0) u) (by omega) HO) km_Mo_88 ki_Mo_sizeAt ks_Mo_sizeAt k0_Mo kc_Mo_sizeAt kd_Mo_sizeAt ⟨Nat.le_of_ble_eq_true rfl, Nat.le_of_ble_eq_true rfl⟩ (nw_recv hK.k hP (i := 0) (by decide) md_0 rfl) (hP) (hI) hl.1 rfl (Nat.le_of_ble_eq_true rfl) d_Mo_recordAt_73 ⟨(Nat.le_of_ble_eq_true rfl), (Nat.le_of_ble_eq_true rfl)⟩ hS (fun H1 locs1 hN hS => ?_)
            have hP := hN _ _ _ hP
            generalize H1 = H at hP hS ⊢
            refine lv_iadd hx hb d_Mo_recordAt_76 ?_
            refine lv_eqi (nI_add _ _) ?_
            refine lv_iadd hx hb d_Mo_recordAt_77 ?_
            refine lv_eqi (nI_add _ _) ?_
            refine lv_eqi (y := nI (plM ro (2040 * r t0) (u + 1))) rfl ?_
            refine lv_istore (lv' := [(4, .int (nI (plM ro (2040 * r t0) (u + 1)))), (2, .int (nI (q0 - u))), (3, .int (nI (r t0))), (0, .ref (ad 0)), (1, .int (nI i))]) hx hb d_Mo_recordAt_78 hl (by decide) rfl (fun ls hl => ?_)
            refine lv_iinc (v := nI (q0 - u - 1)) (lv' := [(2, .int (nI (q0 - u - 1))), (4, .int (nI (plM ro (2040 * r t0) (u + 1)))), (3, .int (nI (r t0))), (0, .ref (ad 0)), (1, .int (nI i))]) hx hb d_Mo_recordAt_80 hl (k := 1) rfl (nI_dec (by omega)) (by decide) rfl (fun ls hl => ?_)
            refine lv_goto (tgt := 62) hx hb d_Mo_recordAt_83 (by decide) ?_
            rw [show q0 - u - 1 = q0 - (u + 1) by omega] at hl
            exact ihd (u + 1) (by omega) _ _ _ hP hS (lv_sub hl [1, 0, 2, 3, 4] rfl)
        exact inner q0 0 (by omega) _ _ _ hP hS (lv_sub hl [0, 2, 1, 3, 4] rfl)
      · have c40 := mt (nI_ltI (by omega) (by omega)).mpr c40
        refine lv_iload_n hx hb d_Mo_recordAt_43 rfl (lv_at hl 1 rfl) ?_
        refine lv_aload_n hx hb d_Mo_recordAt_44 rfl (lv_at hl 2 rfl) ?_
        refine nw_get (D := D) (ci := 5) (C := R_Mo) (T := T_Mo) (N := 16) hx hb hts in_Mo hown hK.k hP (i := 0) (by decide) md_0 rfl 10 (by decide) (hts _ kf_Mo_24) rfl d_Mo_recordAt_45 ?_
        refine lv_iload_n hx hb d_Mo_recordAt_48 rfl (lv_at hl 0 rfl) ?_
        refine nw_iald hx hb hK.k hP (i := 5) (by decide) md_5 1 rfl (vp_in_nI (by omega) (by omega)) d_Mo_recordAt_49 ?_
        refine lv_eqi (y := nI (co (r t))) (by rw [nI_clamp (by omega)]) ?_
        refine lv_isub hx hb d_Mo_recordAt_50 ?_
        refine lv_eqi (pk_sub (by omega)) ?_
        refine lv_istore_n (lv' := [(2, .int (nI (q - (co (r t))))), (3, .int (nI (r t))), (0, .ref (ad 0)), (1, .int (nI i))]) hx hb d_Mo_recordAt_51 rfl hl (by decide) rfl (fun ls hl => ?_)
        refine lv_goto (tgt := 89) hx hb d_Mo_recordAt_52 (by decide) ?_
        refine lv_aload_n hx hb d_Mo_recordAt_89 rfl (lv_at hl 2 rfl) ?_
        refine lv_dup hx hb d_Mo_recordAt_90 rfl ?_
        refine nw_get (D := D) (ci := 5) (C := R_Mo) (T := T_Mo) (N := 16) hx hb hts in_Mo hown hK.k hP (i := 0) (by decide) md_0 rfl 15 (by decide) (hts _ kf_Mo_85) rfl d_Mo_recordAt_91 ?_
        refine lv_iconst (v := nI 1) hx hb d_Mo_recordAt_94 (by decide) ?_
        refine lv_iadd hx hb d_Mo_recordAt_95 ?_
        refine lv_eqi (nI_add _ _) ?_
        refine nw_put (D := D) (ci := 5) (C := R_Mo) (T := T_Mo) (N := 16) hx hb hts in_Mo ty_Mo tk_Mo nm_Mo hown hK.k hP hD hS (i := 0) (by decide) md_0 rfl 15 (by decide) (hts _ kf_Mo_85) rfl rfl rfl (Nat.le_of_ble_eq_true rfl) d_Mo_recordAt_96 (fun H locs hP hS hz hq => ?_)
        have hP : nw D vcl PM ad (mdC cy ad fl dn tp tn w cp cb we be lg co fi bn op ro ((t + 1))) H := nw_congr hP (mdu_fo)
        refine lv_goto (tgt := 13) hx hb d_Mo_recordAt_99 (by decide) ?_
        exact ih (t + 1) (by omega) (q - co (r t)) (by omega) (he.trans (by simp only [fdR, if_neg (show ¬ q < co (r t) by omega)])) _ _ _ hP hS (lv_sub hl [0, 2, 3] rfl)
  exact loop ln 0 (by omega) i hi31 rfl _ _ _ hP hS (lv_sub hl [0, 1, 2] rfl)
set_option maxRecDepth 100000 in
set_option maxHeartbeats 4000000 in
theorem c_Mo_record1 (l : Launch) (D : va_G) (cy : Nat → ClassId) (ad : Nat → Nat) (fl tn cp cb bn fo : Nat) (dn w : Bool) (tp we be co fi ro : Nat → Nat) (lg : Nat → Bool) (op : Option Nat) (x y : Int32) (h : y < nI 0 ∨ nI 4 < y) : mtI l y_Mo_record b_Mo_record 4 (some .int) RM D cy [.ref (ad 0), .int (x), .int (y)] PM ad (mdC cy ad fl dn tp tn w cp cb we be lg co fi bn op ro fo) (mdC cy ad 1 dn tp tn w cp cb we be lg co fi bn op ro fo) (nI 0) := by
  intro sz
  refine nm_ofW (cc := b_Mo_record) (maxL := 4) (ret := (some .int)) (own := R_Mo) (by decide) (Nat.le_of_ble_eq_true rfl) rfl ?_
  intro p e s m below meth c ls F hr hlk hnm hv hl
  obtain ⟨hx, hb, hml, hown, hts⟩ := id F
  obtain ⟨rfl, hP, hK, hI⟩ := hv
  have hD : nd (na PM ad s.heap.size) PM ad := nd_self hI
  have hA : ∀ q, s.heap.size ≤ q → na PM ad s.heap.size q := fun q h => Or.inr h
  have hS : va_S (na PM ad s.heap.size) s.heap s.heap [] := va_S.rf
  have hl : lv_has ls 4 [(0, .ref (ad 0)), (1, .int (x)), (2, .int (y))] := hl
  refine lv_aload_n hx hb d_Mo_record_0 rfl (lv_at hl 0 rfl) ?_
  refine lv_iconst (v := nI 0) hx hb d_Mo_record_1 (by decide) ?_
  refine nw_put (D := D) (ci := 5) (C := R_Mo) (T := T_Mo) (N := 16) hx hb hts in_Mo ty_Mo tk_Mo nm_Mo hown hK.k hP hD hS (i := 0) (by decide) md_0 rfl 0 (by decide) (hts _ kf_Mo_38) rfl rfl rfl (Nat.le_of_ble_eq_true rfl) d_Mo_record_2 (fun H locs hP hS hz hq => ?_)
  have hP : nw D vcl PM ad (mdC cy ad 0 dn tp tn w cp cb we be lg co fi bn op ro fo) H := nw_congr hP (mdu_fl)
  refine lv_iload_n hx hb d_Mo_record_5 rfl (lv_at hl 2 rfl) ?_
  refine lv_if_lt (tgt := 14) hx hb d_Mo_record_6 (by decide) (fun c6 => ?_) (fun c6 => ?_)
  · refine lv_aload_n hx hb d_Mo_record_14 rfl (lv_at hl 0 rfl) ?_
    refine lv_iconst (v := nI 1) hx hb d_Mo_record_15 (by decide) ?_
    refine call_I (As := [.int (nI 1)]) (rest := []) F hK (c_Mo_fail l D cy ad 0 tn cp cb bn fo dn w tp we be co fi ro lg op 1) km_Mo_45 ki_Mo_fail ks_Mo_fail k0_Mo kc_Mo_fail kd_Mo_fail ⟨Nat.le_of_ble_eq_true rfl, Nat.le_of_ble_eq_true rfl⟩ (nw_recv hK.k hP (i := 0) (by decide) md_0 rfl) (hP) (hI) hl.1 rfl (Nat.le_of_ble_eq_true rfl) d_Mo_record_16 ⟨(Nat.le_of_ble_eq_true rfl), (Nat.le_of_ble_eq_true rfl)⟩ hS (na_le hS) (fun H1 locs1 hP1 hk1 hS => ?_)
    have hP : nw D vcl PM ad (mdC cy ad 1 dn tp tn w cp cb we be lg co fi bn op ro fo) H1 := hP1
    generalize H1 = H at hP hS ⊢
    exact end_I F hr hlk rfl hP hS d_Mo_record_19
  · refine lv_iload_n hx hb d_Mo_record_9 rfl (lv_at hl 2 rfl) ?_
    refine lv_iconst (v := nI 4) hx hb d_Mo_record_10 (by decide) ?_
    refine lv_icmp_le (tgt := 20) hx hb d_Mo_record_11 (by decide) (fun c11 => absurd c11 (fun z => absurd (h.resolve_left c6) (Int32.not_lt.mpr z))) (fun c11 => ?_)
    refine lv_aload_n hx hb d_Mo_record_14 rfl (lv_at hl 0 rfl) ?_
    refine lv_iconst (v := nI 1) hx hb d_Mo_record_15 (by decide) ?_
    refine call_I (As := [.int (nI 1)]) (rest := []) F hK (c_Mo_fail l D cy ad 0 tn cp cb bn fo dn w tp we be co fi ro lg op 1) km_Mo_45 ki_Mo_fail ks_Mo_fail k0_Mo kc_Mo_fail kd_Mo_fail ⟨Nat.le_of_ble_eq_true rfl, Nat.le_of_ble_eq_true rfl⟩ (nw_recv hK.k hP (i := 0) (by decide) md_0 rfl) (hP) (hI) hl.1 rfl (Nat.le_of_ble_eq_true rfl) d_Mo_record_16 ⟨(Nat.le_of_ble_eq_true rfl), (Nat.le_of_ble_eq_true rfl)⟩ hS (na_le hS) (fun H1 locs1 hP1 hk1 hS => ?_)
    have hP : nw D vcl PM ad (mdC cy ad 1 dn tp tn w cp cb we be lg co fi bn op ro fo) H1 := hP1
    generalize H1 = H at hP hS ⊢
    exact end_I F hr hlk rfl hP hS d_Mo_record_19
set_option maxRecDepth 100000 in
set_option maxHeartbeats 4000000 in
theorem c_Mo_record2 (l : Launch) (D : va_G) (cy : Nat → ClassId) (ad : Nat → Nat) (fl tn cp cb bn fo : Nat) (dn w : Bool) (tp we be co fi ro : Nat → Nat) (lg : Nat → Bool) (op : Option Nat) (x y : Int32) (h1 : ¬ y < 0) (h2 : ¬ nI 4 < y) : mtI l y_Mo_record b_Mo_record 4 (some .int) RM D cy [.ref (ad 0), .int (x), .int (y)] PM ad (mdC cy ad fl true tp tn w cp cb we be lg co fi bn op ro fo) (mdC cy ad 2 true tp tn w cp cb we be lg co fi bn op ro fo) (nI 0) := by
  intro sz
  refine nm_ofW (cc := b_Mo_record) (maxL := 4) (ret := (some .int)) (own := R_Mo) (by decide) (Nat.le_of_ble_eq_true rfl) rfl ?_
  intro p e s m below meth c ls F hr hlk hnm hv hl
  obtain ⟨hx, hb, hml, hown, hts⟩ := id F
  obtain ⟨rfl, hP, hK, hI⟩ := hv
  have hD : nd (na PM ad s.heap.size) PM ad := nd_self hI
  have hA : ∀ q, s.heap.size ≤ q → na PM ad s.heap.size q := fun q h => Or.inr h
  have hS : va_S (na PM ad s.heap.size) s.heap s.heap [] := va_S.rf
  have hl : lv_has ls 4 [(0, .ref (ad 0)), (1, .int (x)), (2, .int (y))] := hl
  refine lv_aload_n hx hb d_Mo_record_0 rfl (lv_at hl 0 rfl) ?_
  refine lv_iconst (v := nI 0) hx hb d_Mo_record_1 (by decide) ?_
  refine nw_put (D := D) (ci := 5) (C := R_Mo) (T := T_Mo) (N := 16) hx hb hts in_Mo ty_Mo tk_Mo nm_Mo hown hK.k hP hD hS (i := 0) (by decide) md_0 rfl 0 (by decide) (hts _ kf_Mo_38) rfl rfl rfl (Nat.le_of_ble_eq_true rfl) d_Mo_record_2 (fun H locs hP hS hz hq => ?_)
  have hP : nw D vcl PM ad (mdC cy ad 0 true tp tn w cp cb we be lg co fi bn op ro fo) H := nw_congr hP (mdu_fl)
  refine lv_iload_n hx hb d_Mo_record_5 rfl (lv_at hl 2 rfl) ?_
  refine lv_if_lt (tgt := 14) hx hb d_Mo_record_6 (by decide) (fun c6 => absurd c6 h1) (fun c6 => ?_)
  refine lv_iload_n hx hb d_Mo_record_9 rfl (lv_at hl 2 rfl) ?_
  refine lv_iconst (v := nI 4) hx hb d_Mo_record_10 (by decide) ?_
  refine lv_icmp_le (tgt := 20) hx hb d_Mo_record_11 (by decide) (fun c11 => ?_) (fun c11 => absurd (Int32.not_lt.mp h2) c11)
  refine lv_aload_n hx hb d_Mo_record_20 rfl (lv_at hl 0 rfl) ?_
  refine nw_get (D := D) (ci := 5) (C := R_Mo) (T := T_Mo) (N := 16) hx hb hts in_Mo hown hK.k hP (i := 0) (by decide) md_0 rfl 1 (by decide) (hts _ kf_Mo_41) rfl d_Mo_record_21 ?_
  refine lv_if_eq (tgt := 33) hx hb d_Mo_record_24 (by decide) (fun c24 => absurd c24 (show ¬ bI true = 0 by decide)) (fun c24 => ?_)
  refine lv_aload_n hx hb d_Mo_record_27 rfl (lv_at hl 0 rfl) ?_
  refine lv_iconst (v := nI 2) hx hb d_Mo_record_28 (by decide) ?_
  refine call_I (As := [.int (nI 2)]) (rest := []) F hK (c_Mo_fail l D cy ad 0 tn cp cb bn fo true w tp we be co fi ro lg op 2) km_Mo_45 ki_Mo_fail ks_Mo_fail k0_Mo kc_Mo_fail kd_Mo_fail ⟨Nat.le_of_ble_eq_true rfl, Nat.le_of_ble_eq_true rfl⟩ (nw_recv hK.k hP (i := 0) (by decide) md_0 rfl) (hP) (hI) hl.1 rfl (Nat.le_of_ble_eq_true rfl) d_Mo_record_29 ⟨(Nat.le_of_ble_eq_true rfl), (Nat.le_of_ble_eq_true rfl)⟩ hS (na_le hS) (fun H1 locs1 hP1 hk1 hS => ?_)
  have hP : nw D vcl PM ad (mdC cy ad 2 true tp tn w cp cb we be lg co fi bn op ro fo) H1 := hP1
  generalize H1 = H at hP hS ⊢
  exact end_I F hr hlk rfl hP hS d_Mo_record_32
set_option maxRecDepth 100000 in
set_option maxHeartbeats 4000000 in
theorem c_Mo_record3 (l : Launch) (D : va_G) (cy : Nat → ClassId) (ad : Nat → Nat) (fl tn cp cb bn fo : Nat) (dn w : Bool) (tp we be co fi ro : Nat → Nat) (lg : Nat → Bool) (op : Option Nat) (x y : Int32) (h1 : ¬ y < 0) (h2 : ¬ nI 4 < y) (hx0 : x < 0) : mtI l y_Mo_record b_Mo_record 4 (some .int) RM D cy [.ref (ad 0), .int (x), .int (y)] PM ad (mdC cy ad fl false tp tn w cp cb we be lg co fi bn op ro fo) (mdC cy ad 3 false tp tn w cp cb we be lg co fi bn op ro fo) (nI 0) := by
  intro sz
  refine nm_ofW (cc := b_Mo_record) (maxL := 4) (ret := (some .int)) (own := R_Mo) (by decide) (Nat.le_of_ble_eq_true rfl) rfl ?_
  intro p e s m below meth c ls F hr hlk hnm hv hl
  obtain ⟨hx, hb, hml, hown, hts⟩ := id F
  obtain ⟨rfl, hP, hK, hI⟩ := hv
  have hD : nd (na PM ad s.heap.size) PM ad := nd_self hI
  have hA : ∀ q, s.heap.size ≤ q → na PM ad s.heap.size q := fun q h => Or.inr h
  have hS : va_S (na PM ad s.heap.size) s.heap s.heap [] := va_S.rf
  have hl : lv_has ls 4 [(0, .ref (ad 0)), (1, .int (x)), (2, .int (y))] := hl
  refine lv_aload_n hx hb d_Mo_record_0 rfl (lv_at hl 0 rfl) ?_
  refine lv_iconst (v := nI 0) hx hb d_Mo_record_1 (by decide) ?_
  refine nw_put (D := D) (ci := 5) (C := R_Mo) (T := T_Mo) (N := 16) hx hb hts in_Mo ty_Mo tk_Mo nm_Mo hown hK.k hP hD hS (i := 0) (by decide) md_0 rfl 0 (by decide) (hts _ kf_Mo_38) rfl rfl rfl (Nat.le_of_ble_eq_true rfl) d_Mo_record_2 (fun H locs hP hS hz hq => ?_)
  have hP : nw D vcl PM ad (mdC cy ad 0 false tp tn w cp cb we be lg co fi bn op ro fo) H := nw_congr hP (mdu_fl)
  refine lv_iload_n hx hb d_Mo_record_5 rfl (lv_at hl 2 rfl) ?_
  refine lv_if_lt (tgt := 14) hx hb d_Mo_record_6 (by decide) (fun c6 => absurd c6 h1) (fun c6 => ?_)
  refine lv_iload_n hx hb d_Mo_record_9 rfl (lv_at hl 2 rfl) ?_
  refine lv_iconst (v := nI 4) hx hb d_Mo_record_10 (by decide) ?_
  refine lv_icmp_le (tgt := 20) hx hb d_Mo_record_11 (by decide) (fun c11 => ?_) (fun c11 => absurd (Int32.not_lt.mp h2) c11)
  refine lv_aload_n hx hb d_Mo_record_20 rfl (lv_at hl 0 rfl) ?_
  refine nw_get (D := D) (ci := 5) (C := R_Mo) (T := T_Mo) (N := 16) hx hb hts in_Mo hown hK.k hP (i := 0) (by decide) md_0 rfl 1 (by decide) (hts _ kf_Mo_41) rfl d_Mo_record_21 ?_
  refine lv_if_eq (tgt := 33) hx hb d_Mo_record_24 (by decide) (fun c24 => ?_) (fun c24 => absurd (show bI false = 0 by decide) c24)
  refine lv_aload_n hx hb d_Mo_record_33 rfl (lv_at hl 0 rfl) ?_
  refine lv_iload_n hx hb d_Mo_record_34 rfl (lv_at hl 1 rfl) ?_
  refine call_I (As := [.int (x)]) (rest := []) F hK (c_Mo_recordAtN l D cy ad 0 tn cp cb bn fo false w tp we be co fi ro lg op x hx0) km_Mo_91 ki_Mo_recordAt ks_Mo_recordAt k0_Mo kc_Mo_recordAt kd_Mo_recordAt ⟨Nat.le_of_ble_eq_true rfl, Nat.le_of_ble_eq_true rfl⟩ (nw_recv hK.k hP (i := 0) (by decide) md_0 rfl) (hP) (hI) hl.1 rfl (Nat.le_of_ble_eq_true rfl) d_Mo_record_35 ⟨(Nat.le_of_ble_eq_true rfl), (Nat.le_of_ble_eq_true rfl)⟩ hS (na_le hS) (fun H1 locs1 hP1 hk1 hS => ?_)
  have hP : nw D vcl PM ad (mdC cy ad 0 false tp tn w cp cb we be lg co fi bn op ro fo) H1 := hP1
  generalize H1 = H at hP hS ⊢
  refine lv_istore_n (lv' := [(3, .int (-1)), (0, .ref (ad 0)), (1, .int (x)), (2, .int (y))]) hx hb d_Mo_record_38 rfl hl (by decide) rfl (fun ls hl => ?_)
  refine lv_iload_n hx hb d_Mo_record_39 rfl (lv_at hl 0 rfl) ?_
  refine lv_if_ge (tgt := 49) hx hb d_Mo_record_40 (by decide) (fun c40 => absurd c40 (show ¬ (0 : Int32) ≤ -1 by decide)) (fun c40 => ?_)
  refine lv_aload_n hx hb d_Mo_record_43 rfl (lv_at hl 1 rfl) ?_
  refine lv_iconst (v := nI 3) hx hb d_Mo_record_44 (by decide) ?_
  refine call_I (As := [.int (nI 3)]) (rest := []) F hK (c_Mo_fail l D cy ad 0 tn cp cb bn fo false w tp we be co fi ro lg op 3) km_Mo_45 ki_Mo_fail ks_Mo_fail k0_Mo kc_Mo_fail kd_Mo_fail ⟨Nat.le_of_ble_eq_true rfl, Nat.le_of_ble_eq_true rfl⟩ (nw_recv hK.k hP (i := 0) (by decide) md_0 rfl) (hP) (hI) hl.1 rfl (Nat.le_of_ble_eq_true rfl) d_Mo_record_45 ⟨(Nat.le_of_ble_eq_true rfl), (Nat.le_of_ble_eq_true rfl)⟩ hS (na_le hS) (fun H1 locs1 hP1 hk1 hS => ?_)
  have hP : nw D vcl PM ad (mdC cy ad 3 false tp tn w cp cb we be lg co fi bn op ro fo) H1 := hP1
  generalize H1 = H at hP hS ⊢
  exact end_I F hr hlk rfl hP hS d_Mo_record_48
set_option maxRecDepth 100000 in
set_option maxHeartbeats 4000000 in
theorem c_Mo_record4 (l : Launch) (D : va_G) (cy : Nat → ClassId) (ad : Nat → Nat) (fl tn cp cb bn fo : Nat) (dn w : Bool) (tp we be co fi ro : Nat → Nat) (lg : Nat → Bool) (op : Option Nat) (i : Nat) (y : Int32) (h1 : ¬ y < 0) (h2 : ¬ nI 4 < y) (hi31 : i < 2 ^ 31) (r : Nat → Nat) (ln : Nat) (hln : cntL lg 24 = ln) (hrow : ∀ t, t < ln → bAt lg be t 24 0 = some (r t) ∧ r t < 24) (HB : ∀ b, b < 24 → be b < 2 ^ 31) (HQ : ∀ b, b < 24 → co b < 2 ^ 16) (HO : ∀ j, j < 48960 → ro j < 256) (HP : ∀ t, t < ln → ∀ q, q < co (r t) → plM ro (2040 * r t) q + 9 ≤ 48960) (hf : fdR co r ln 0 i = none) : mtI l y_Mo_record b_Mo_record 4 (some .int) RM D cy [.ref (ad 0), .int (nI i), .int (y)] PM ad (mdC cy ad fl false tp tn w cp cb we be lg co fi bn op ro fo) (mdC cy ad 3 false tp tn w cp cb we be lg co fi bn op ro ln) (nI 0) := by
  intro sz
  refine nm_ofW (cc := b_Mo_record) (maxL := 4) (ret := (some .int)) (own := R_Mo) (by decide) (Nat.le_of_ble_eq_true rfl) rfl ?_
  intro p e s m below meth c ls F hr hlk hnm hv hl
  obtain ⟨hx, hb, hml, hown, hts⟩ := id F
  obtain ⟨rfl, hP, hK, hI⟩ := hv
  have hD : nd (na PM ad s.heap.size) PM ad := nd_self hI
  have hA : ∀ q, s.heap.size ≤ q → na PM ad s.heap.size q := fun q h => Or.inr h
  have hS : va_S (na PM ad s.heap.size) s.heap s.heap [] := va_S.rf
  have hl : lv_has ls 4 [(0, .ref (ad 0)), (1, .int (nI i)), (2, .int (y))] := hl
  refine lv_aload_n hx hb d_Mo_record_0 rfl (lv_at hl 0 rfl) ?_
  refine lv_iconst (v := nI 0) hx hb d_Mo_record_1 (by decide) ?_
  refine nw_put (D := D) (ci := 5) (C := R_Mo) (T := T_Mo) (N := 16) hx hb hts in_Mo ty_Mo tk_Mo nm_Mo hown hK.k hP hD hS (i := 0) (by decide) md_0 rfl 0 (by decide) (hts _ kf_Mo_38) rfl rfl rfl (Nat.le_of_ble_eq_true rfl) d_Mo_record_2 (fun H locs hP hS hz hq => ?_)
  have hP : nw D vcl PM ad (mdC cy ad 0 false tp tn w cp cb we be lg co fi bn op ro fo) H := nw_congr hP (mdu_fl)
  refine lv_iload_n hx hb d_Mo_record_5 rfl (lv_at hl 2 rfl) ?_
  refine lv_if_lt (tgt := 14) hx hb d_Mo_record_6 (by decide) (fun c6 => absurd c6 h1) (fun c6 => ?_)
  refine lv_iload_n hx hb d_Mo_record_9 rfl (lv_at hl 2 rfl) ?_
  refine lv_iconst (v := nI 4) hx hb d_Mo_record_10 (by decide) ?_
  refine lv_icmp_le (tgt := 20) hx hb d_Mo_record_11 (by decide) (fun c11 => ?_) (fun c11 => absurd (Int32.not_lt.mp h2) c11)
  refine lv_aload_n hx hb d_Mo_record_20 rfl (lv_at hl 0 rfl) ?_
  refine nw_get (D := D) (ci := 5) (C := R_Mo) (T := T_Mo) (N := 16) hx hb hts in_Mo hown hK.k hP (i := 0) (by decide) md_0 rfl 1 (by decide) (hts _ kf_Mo_41) rfl d_Mo_record_21 ?_
  refine lv_if_eq (tgt := 33) hx hb d_Mo_record_24 (by decide) (fun c24 => ?_) (fun c24 => absurd (show bI false = 0 by decide) c24)
  refine lv_aload_n hx hb d_Mo_record_33 rfl (lv_at hl 0 rfl) ?_
  refine lv_iload_n hx hb d_Mo_record_34 rfl (lv_at hl 1 rfl) ?_
  refine call_I (As := [.int (nI i)]) (rest := []) F hK (c_Mo_recordAt0 l D cy ad 0 tn cp cb bn fo false w tp we be co fi ro lg op i hi31 r ln hln hrow HB HQ HO HP hf) km_Mo_91 ki_Mo_recordAt ks_Mo_recordAt k0_Mo kc_Mo_recordAt kd_Mo_recordAt ⟨Nat.le_of_ble_eq_true rfl, Nat.le_of_ble_eq_true rfl⟩ (nw_recv hK.k hP (i := 0) (by decide) md_0 rfl) (hP) (hI) hl.1 rfl (Nat.le_of_ble_eq_true rfl) d_Mo_record_35 ⟨(Nat.le_of_ble_eq_true rfl), (Nat.le_of_ble_eq_true rfl)⟩ hS (na_le hS) (fun H1 locs1 hP1 hk1 hS => ?_)
  have hP : nw D vcl PM ad (mdC cy ad 0 false tp tn w cp cb we be lg co fi bn op ro ln) H1 := hP1
  generalize H1 = H at hP hS ⊢
  refine lv_istore_n (lv' := [(3, .int (-1)), (0, .ref (ad 0)), (1, .int (nI i)), (2, .int (y))]) hx hb d_Mo_record_38 rfl hl (by decide) rfl (fun ls hl => ?_)
  refine lv_iload_n hx hb d_Mo_record_39 rfl (lv_at hl 0 rfl) ?_
  refine lv_if_ge (tgt := 49) hx hb d_Mo_record_40 (by decide) (fun c40 => absurd c40 (show ¬ (0 : Int32) ≤ -1 by decide)) (fun c40 => ?_)
  refine lv_aload_n hx hb d_Mo_record_43 rfl (lv_at hl 1 rfl) ?_
  refine lv_iconst (v := nI 3) hx hb d_Mo_record_44 (by decide) ?_
  refine call_I (As := [.int (nI 3)]) (rest := []) F hK (c_Mo_fail l D cy ad 0 tn cp cb bn ln false w tp we be co fi ro lg op 3) km_Mo_45 ki_Mo_fail ks_Mo_fail k0_Mo kc_Mo_fail kd_Mo_fail ⟨Nat.le_of_ble_eq_true rfl, Nat.le_of_ble_eq_true rfl⟩ (nw_recv hK.k hP (i := 0) (by decide) md_0 rfl) (hP) (hI) hl.1 rfl (Nat.le_of_ble_eq_true rfl) d_Mo_record_45 ⟨(Nat.le_of_ble_eq_true rfl), (Nat.le_of_ble_eq_true rfl)⟩ hS (na_le hS) (fun H1 locs1 hP1 hk1 hS => ?_)
  have hP : nw D vcl PM ad (mdC cy ad 3 false tp tn w cp cb we be lg co fi bn op ro ln) H1 := hP1
  generalize H1 = H at hP hS ⊢
  exact end_I F hr hlk rfl hP hS d_Mo_record_48
set_option maxRecDepth 100000 in
set_option maxHeartbeats 4000000 in
theorem c_Mo_record0_0 (l : Launch) (D : va_G) (cy : Nat → ClassId) (ad : Nat → Nat) (fl tn cp cb bn fo : Nat) (dn w : Bool) (tp we be co fi ro : Nat → Nat) (lg : Nat → Bool) (op : Option Nat) (i : Nat) (hi31 : i < 2 ^ 31) (r : Nat → Nat) (ln : Nat) (hln : cntL lg 24 = ln) (hrow : ∀ t, t < ln → bAt lg be t 24 0 = some (r t) ∧ r t < 24) (HB : ∀ b, b < 24 → be b < 2 ^ 31) (HQ : ∀ b, b < 24 → co b < 2 ^ 16) (HO : ∀ j, j < 48960 → ro j < 256) (HP : ∀ t, t < ln → ∀ q, q < co (r t) → plM ro (2040 * r t) q + 9 ≤ 48960) (t0 q0 a : Nat) (hf : fdR co r ln 0 i = some (t0, q0)) (ha : plM ro (2040 * r t0) q0 = a) (ha2 : a + 9 ≤ 48960) (h128 : ro a < 128) : mtI l y_Mo_record b_Mo_record 4 (some .int) RM D cy [.ref (ad 0), .int (nI i), .int (nI 0)] PM ad (mdC cy ad fl false tp tn w cp cb we be lg co fi bn op ro fo) (mdC cy ad 0 false tp tn w cp cb we be lg co fi bn op ro t0) (nI (ro a)) := by
  intro sz
  refine nm_ofW (cc := b_Mo_record) (maxL := 4) (ret := (some .int)) (own := R_Mo) (by decide) (Nat.le_of_ble_eq_true rfl) rfl ?_
  intro p e s m below meth c ls F hr hlk hnm hv hl
  obtain ⟨hx, hb, hml, hown, hts⟩ := id F
  obtain ⟨rfl, hP, hK, hI⟩ := hv
  have hD : nd (na PM ad s.heap.size) PM ad := nd_self hI
  have hA : ∀ q, s.heap.size ≤ q → na PM ad s.heap.size q := fun q h => Or.inr h
  have hS : va_S (na PM ad s.heap.size) s.heap s.heap [] := va_S.rf
  have hl : lv_has ls 4 [(0, .ref (ad 0)), (1, .int (nI i)), (2, .int (nI 0))] := hl
  refine lv_aload_n hx hb d_Mo_record_0 rfl (lv_at hl 0 rfl) ?_
  refine lv_iconst (v := nI 0) hx hb d_Mo_record_1 (by decide) ?_
  refine nw_put (D := D) (ci := 5) (C := R_Mo) (T := T_Mo) (N := 16) hx hb hts in_Mo ty_Mo tk_Mo nm_Mo hown hK.k hP hD hS (i := 0) (by decide) md_0 rfl 0 (by decide) (hts _ kf_Mo_38) rfl rfl rfl (Nat.le_of_ble_eq_true rfl) d_Mo_record_2 (fun H locs hP hS hz hq => ?_)
  have hP : nw D vcl PM ad (mdC cy ad 0 false tp tn w cp cb we be lg co fi bn op ro fo) H := nw_congr hP (mdu_fl)
  refine lv_iload_n hx hb d_Mo_record_5 rfl (lv_at hl 2 rfl) ?_
  refine lv_if_lt (tgt := 14) hx hb d_Mo_record_6 (by decide) (fun c6 => absurd c6 (nI_pos (by omega))) (fun c6 => ?_)
  refine lv_iload_n hx hb d_Mo_record_9 rfl (lv_at hl 2 rfl) ?_
  refine lv_iconst (v := nI 4) hx hb d_Mo_record_10 (by decide) ?_
  refine lv_icmp_le (tgt := 20) hx hb d_Mo_record_11 (by decide) (fun c11 => ?_) (fun c11 => absurd ((nI_leI (by omega) (by omega)).mpr (by omega)) c11)
  refine lv_aload_n hx hb d_Mo_record_20 rfl (lv_at hl 0 rfl) ?_
  refine nw_get (D := D) (ci := 5) (C := R_Mo) (T := T_Mo) (N := 16) hx hb hts in_Mo hown hK.k hP (i := 0) (by decide) md_0 rfl 1 (by decide) (hts _ kf_Mo_41) rfl d_Mo_record_21 ?_
  refine lv_if_eq (tgt := 33) hx hb d_Mo_record_24 (by decide) (fun c24 => ?_) (fun c24 => absurd (show bI false = 0 by decide) c24)
  refine lv_aload_n hx hb d_Mo_record_33 rfl (lv_at hl 0 rfl) ?_
  refine lv_iload_n hx hb d_Mo_record_34 rfl (lv_at hl 1 rfl) ?_
  refine call_I (As := [.int (nI i)]) (rest := []) F hK (c_Mo_recordAt1 l D cy ad 0 tn cp cb bn fo false w tp we be co fi ro lg op i hi31 r ln hln hrow HB HQ HO HP t0 q0 hf) km_Mo_91 ki_Mo_recordAt ks_Mo_recordAt k0_Mo kc_Mo_recordAt kd_Mo_recordAt ⟨Nat.le_of_ble_eq_true rfl, Nat.le_of_ble_eq_true rfl⟩ (nw_recv hK.k hP (i := 0) (by decide) md_0 rfl) (hP) (hI) hl.1 rfl (Nat.le_of_ble_eq_true rfl) d_Mo_record_35 ⟨(Nat.le_of_ble_eq_true rfl), (Nat.le_of_ble_eq_true rfl)⟩ hS (na_le hS) (fun H1 locs1 hP1 hk1 hS => ?_)
  have hP : nw D vcl PM ad (mdC cy ad 0 false tp tn w cp cb we be lg co fi bn op ro t0) H1 := hP1
  generalize H1 = H at hP hS ⊢
  rw [ha]
  refine lv_istore_n (lv' := [(3, .int (nI a)), (0, .ref (ad 0)), (1, .int (nI i)), (2, .int (nI 0))]) hx hb d_Mo_record_38 rfl hl (by decide) rfl (fun ls hl => ?_)
  refine lv_iload_n hx hb d_Mo_record_39 rfl (lv_at hl 0 rfl) ?_
  refine lv_if_ge (tgt := 49) hx hb d_Mo_record_40 (by decide) (fun c40 => ?_) (fun c40 => absurd (nI_pos' (by omega)) c40)
  refine lv_iload_n hx hb d_Mo_record_49 rfl (lv_at hl 3 rfl) ?_
  refine lv_tableIn (tgt := 80) (off := 30) hx hb d_Mo_record_50 (by decide) (by decide) (by decide) (by decide) ?_
  refine lv_aload_n hx hb d_Mo_record_80 rfl (lv_at hl 1 rfl) ?_
  refine nw_get (D := D) (ci := 5) (C := R_Mo) (T := T_Mo) (N := 16) hx hb hts in_Mo hown hK.k hP (i := 0) (by decide) md_0 rfl 14 (by decide) (hts _ kf_Mo_35) rfl d_Mo_record_81 ?_
  refine lv_iload_n hx hb d_Mo_record_84 rfl (lv_at hl 0 rfl) ?_
  refine nw_bald hx hb hK.k hP (i := 7) (by decide) md_7 0 rfl (vp_in_nI (by omega) (by omega)) d_Mo_record_85 ?_
  refine lv_eqi (y := sb_b (ro a)) (by rw [nI_clamp (by omega)]) ?_
  refine lv_eqi (y := nI (ro a)) (sb_low _ h128) ?_
  exact end_I F hr hlk rfl hP hS d_Mo_record_86
set_option maxRecDepth 100000 in
set_option maxHeartbeats 4000000 in
theorem c_Mo_record0_1 (l : Launch) (D : va_G) (cy : Nat → ClassId) (ad : Nat → Nat) (fl tn cp cb bn fo : Nat) (dn w : Bool) (tp we be co fi ro : Nat → Nat) (lg : Nat → Bool) (op : Option Nat) (i : Nat) (hi31 : i < 2 ^ 31) (r : Nat → Nat) (ln : Nat) (hln : cntL lg 24 = ln) (hrow : ∀ t, t < ln → bAt lg be t 24 0 = some (r t) ∧ r t < 24) (HB : ∀ b, b < 24 → be b < 2 ^ 31) (HQ : ∀ b, b < 24 → co b < 2 ^ 16) (HO : ∀ j, j < 48960 → ro j < 256) (HP : ∀ t, t < ln → ∀ q, q < co (r t) → plM ro (2040 * r t) q + 9 ≤ 48960) (t0 q0 a : Nat) (hf : fdR co r ln 0 i = some (t0, q0)) (ha : plM ro (2040 * r t0) q0 = a) (ha2 : a + 9 ≤ 48960) : mtI l y_Mo_record b_Mo_record 4 (some .int) RM D cy [.ref (ad 0), .int (nI i), .int (nI 1)] PM ad (mdC cy ad fl false tp tn w cp cb we be lg co fi bn op ro fo) (mdC cy ad 0 false tp tn w cp cb we be lg co fi bn op ro t0) (nI (num ro (a + 4) 4)) := by
  intro sz
  refine nm_ofW (cc := b_Mo_record) (maxL := 4) (ret := (some .int)) (own := R_Mo) (by decide) (Nat.le_of_ble_eq_true rfl) rfl ?_
  intro p e s m below meth c ls F hr hlk hnm hv hl
  obtain ⟨hx, hb, hml, hown, hts⟩ := id F
  obtain ⟨rfl, hP, hK, hI⟩ := hv
  have hD : nd (na PM ad s.heap.size) PM ad := nd_self hI
  have hA : ∀ q, s.heap.size ≤ q → na PM ad s.heap.size q := fun q h => Or.inr h
  have hS : va_S (na PM ad s.heap.size) s.heap s.heap [] := va_S.rf
  have hl : lv_has ls 4 [(0, .ref (ad 0)), (1, .int (nI i)), (2, .int (nI 1))] := hl
  refine lv_aload_n hx hb d_Mo_record_0 rfl (lv_at hl 0 rfl) ?_
  refine lv_iconst (v := nI 0) hx hb d_Mo_record_1 (by decide) ?_
  refine nw_put (D := D) (ci := 5) (C := R_Mo) (T := T_Mo) (N := 16) hx hb hts in_Mo ty_Mo tk_Mo nm_Mo hown hK.k hP hD hS (i := 0) (by decide) md_0 rfl 0 (by decide) (hts _ kf_Mo_38) rfl rfl rfl (Nat.le_of_ble_eq_true rfl) d_Mo_record_2 (fun H locs hP hS hz hq => ?_)
  have hP : nw D vcl PM ad (mdC cy ad 0 false tp tn w cp cb we be lg co fi bn op ro fo) H := nw_congr hP (mdu_fl)
  refine lv_iload_n hx hb d_Mo_record_5 rfl (lv_at hl 2 rfl) ?_
  refine lv_if_lt (tgt := 14) hx hb d_Mo_record_6 (by decide) (fun c6 => absurd c6 (nI_pos (by omega))) (fun c6 => ?_)
  refine lv_iload_n hx hb d_Mo_record_9 rfl (lv_at hl 2 rfl) ?_
  refine lv_iconst (v := nI 4) hx hb d_Mo_record_10 (by decide) ?_
  refine lv_icmp_le (tgt := 20) hx hb d_Mo_record_11 (by decide) (fun c11 => ?_) (fun c11 => absurd ((nI_leI (by omega) (by omega)).mpr (by omega)) c11)
  refine lv_aload_n hx hb d_Mo_record_20 rfl (lv_at hl 0 rfl) ?_
  refine nw_get (D := D) (ci := 5) (C := R_Mo) (T := T_Mo) (N := 16) hx hb hts in_Mo hown hK.k hP (i := 0) (by decide) md_0 rfl 1 (by decide) (hts _ kf_Mo_41) rfl d_Mo_record_21 ?_
  refine lv_if_eq (tgt := 33) hx hb d_Mo_record_24 (by decide) (fun c24 => ?_) (fun c24 => absurd (show bI false = 0 by decide) c24)
  refine lv_aload_n hx hb d_Mo_record_33 rfl (lv_at hl 0 rfl) ?_
  refine lv_iload_n hx hb d_Mo_record_34 rfl (lv_at hl 1 rfl) ?_
  refine call_I (As := [.int (nI i)]) (rest := []) F hK (c_Mo_recordAt1 l D cy ad 0 tn cp cb bn fo false w tp we be co fi ro lg op i hi31 r ln hln hrow HB HQ HO HP t0 q0 hf) km_Mo_91 ki_Mo_recordAt ks_Mo_recordAt k0_Mo kc_Mo_recordAt kd_Mo_recordAt ⟨Nat.le_of_ble_eq_true rfl, Nat.le_of_ble_eq_true rfl⟩ (nw_recv hK.k hP (i := 0) (by decide) md_0 rfl) (hP) (hI) hl.1 rfl (Nat.le_of_ble_eq_true rfl) d_Mo_record_35 ⟨(Nat.le_of_ble_eq_true rfl), (Nat.le_of_ble_eq_true rfl)⟩ hS (na_le hS) (fun H1 locs1 hP1 hk1 hS => ?_)
  have hP : nw D vcl PM ad (mdC cy ad 0 false tp tn w cp cb we be lg co fi bn op ro t0) H1 := hP1
  generalize H1 = H at hP hS ⊢
  rw [ha]
  refine lv_istore_n (lv' := [(3, .int (nI a)), (0, .ref (ad 0)), (1, .int (nI i)), (2, .int (nI 1))]) hx hb d_Mo_record_38 rfl hl (by decide) rfl (fun ls hl => ?_)
  refine lv_iload_n hx hb d_Mo_record_39 rfl (lv_at hl 0 rfl) ?_
  refine lv_if_ge (tgt := 49) hx hb d_Mo_record_40 (by decide) (fun c40 => ?_) (fun c40 => absurd (nI_pos' (by omega)) c40)
  refine lv_iload_n hx hb d_Mo_record_49 rfl (lv_at hl 3 rfl) ?_
  refine lv_tableIn (tgt := 87) (off := 37) hx hb d_Mo_record_50 (by decide) (by decide) (by decide) (by decide) ?_
  refine lv_aload_n hx hb d_Mo_record_87 rfl (lv_at hl 1 rfl) ?_
  refine lv_iload_n hx hb d_Mo_record_88 rfl (lv_at hl 0 rfl) ?_
  refine lv_iconst (v := nI 4) hx hb d_Mo_record_89 (by decide) ?_
  refine lv_iadd hx hb d_Mo_record_90 ?_
  refine lv_eqi (nI_add _ _) ?_
  refine lv_iconst (v := nI 4) hx hb d_Mo_record_91 (by decide) ?_
  refine call_R (As := [.int (nI (a + 4)), .int (nI 4)]) (rest := []) F hK (c_Mo_number l D cy ad 0 tn cp cb bn t0 false w tp we be co fi ro lg op (a + 4) 4 (by omega) (by omega) HO) km_Mo_81 ki_Mo_number ks_Mo_number k0_Mo kc_Mo_number kd_Mo_number ⟨Nat.le_of_ble_eq_true rfl, Nat.le_of_ble_eq_true rfl⟩ (nw_recv hK.k hP (i := 0) (by decide) md_0 rfl) (hP) (hI) hl.1 rfl (Nat.le_of_ble_eq_true rfl) d_Mo_record_92 ⟨(Nat.le_of_ble_eq_true rfl), (Nat.le_of_ble_eq_true rfl)⟩ hS (fun H1 locs1 hN hS => ?_)
  have hP := hN _ _ _ hP
  generalize H1 = H at hP hS ⊢
  exact end_I F hr hlk rfl hP hS d_Mo_record_95
set_option maxRecDepth 100000 in
set_option maxHeartbeats 4000000 in
theorem c_Mo_record0_2 (l : Launch) (D : va_G) (cy : Nat → ClassId) (ad : Nat → Nat) (fl tn cp cb bn fo : Nat) (dn w : Bool) (tp we be co fi ro : Nat → Nat) (lg : Nat → Bool) (op : Option Nat) (i : Nat) (hi31 : i < 2 ^ 31) (r : Nat → Nat) (ln : Nat) (hln : cntL lg 24 = ln) (hrow : ∀ t, t < ln → bAt lg be t 24 0 = some (r t) ∧ r t < 24) (HB : ∀ b, b < 24 → be b < 2 ^ 31) (HQ : ∀ b, b < 24 → co b < 2 ^ 16) (HO : ∀ j, j < 48960 → ro j < 256) (HP : ∀ t, t < ln → ∀ q, q < co (r t) → plM ro (2040 * r t) q + 9 ≤ 48960) (t0 q0 a : Nat) (hf : fdR co r ln 0 i = some (t0, q0)) (ha : plM ro (2040 * r t0) q0 = a) (ha2 : a + 9 ≤ 48960) : mtI l y_Mo_record b_Mo_record 4 (some .int) RM D cy [.ref (ad 0), .int (nI i), .int (nI 2)] PM ad (mdC cy ad fl false tp tn w cp cb we be lg co fi bn op ro fo) (mdC cy ad 0 false tp tn w cp cb we be lg co fi bn op ro t0) (nI (ro (a + 1))) := by
  intro sz
  refine nm_ofW (cc := b_Mo_record) (maxL := 4) (ret := (some .int)) (own := R_Mo) (by decide) (Nat.le_of_ble_eq_true rfl) rfl ?_
  intro p e s m below meth c ls F hr hlk hnm hv hl
  obtain ⟨hx, hb, hml, hown, hts⟩ := id F
  obtain ⟨rfl, hP, hK, hI⟩ := hv
  have hD : nd (na PM ad s.heap.size) PM ad := nd_self hI
  have hA : ∀ q, s.heap.size ≤ q → na PM ad s.heap.size q := fun q h => Or.inr h
  have hS : va_S (na PM ad s.heap.size) s.heap s.heap [] := va_S.rf
  have hl : lv_has ls 4 [(0, .ref (ad 0)), (1, .int (nI i)), (2, .int (nI 2))] := hl
  refine lv_aload_n hx hb d_Mo_record_0 rfl (lv_at hl 0 rfl) ?_
  refine lv_iconst (v := nI 0) hx hb d_Mo_record_1 (by decide) ?_
  refine nw_put (D := D) (ci := 5) (C := R_Mo) (T := T_Mo) (N := 16) hx hb hts in_Mo ty_Mo tk_Mo nm_Mo hown hK.k hP hD hS (i := 0) (by decide) md_0 rfl 0 (by decide) (hts _ kf_Mo_38) rfl rfl rfl (Nat.le_of_ble_eq_true rfl) d_Mo_record_2 (fun H locs hP hS hz hq => ?_)
  have hP : nw D vcl PM ad (mdC cy ad 0 false tp tn w cp cb we be lg co fi bn op ro fo) H := nw_congr hP (mdu_fl)
  refine lv_iload_n hx hb d_Mo_record_5 rfl (lv_at hl 2 rfl) ?_
  refine lv_if_lt (tgt := 14) hx hb d_Mo_record_6 (by decide) (fun c6 => absurd c6 (nI_pos (by omega))) (fun c6 => ?_)
  refine lv_iload_n hx hb d_Mo_record_9 rfl (lv_at hl 2 rfl) ?_
  refine lv_iconst (v := nI 4) hx hb d_Mo_record_10 (by decide) ?_
  refine lv_icmp_le (tgt := 20) hx hb d_Mo_record_11 (by decide) (fun c11 => ?_) (fun c11 => absurd ((nI_leI (by omega) (by omega)).mpr (by omega)) c11)
  refine lv_aload_n hx hb d_Mo_record_20 rfl (lv_at hl 0 rfl) ?_
  refine nw_get (D := D) (ci := 5) (C := R_Mo) (T := T_Mo) (N := 16) hx hb hts in_Mo hown hK.k hP (i := 0) (by decide) md_0 rfl 1 (by decide) (hts _ kf_Mo_41) rfl d_Mo_record_21 ?_
  refine lv_if_eq (tgt := 33) hx hb d_Mo_record_24 (by decide) (fun c24 => ?_) (fun c24 => absurd (show bI false = 0 by decide) c24)
  refine lv_aload_n hx hb d_Mo_record_33 rfl (lv_at hl 0 rfl) ?_
  refine lv_iload_n hx hb d_Mo_record_34 rfl (lv_at hl 1 rfl) ?_
  refine call_I (As := [.int (nI i)]) (rest := []) F hK (c_Mo_recordAt1 l D cy ad 0 tn cp cb bn fo false w tp we be co fi ro lg op i hi31 r ln hln hrow HB HQ HO HP t0 q0 hf) km_Mo_91 ki_Mo_recordAt ks_Mo_recordAt k0_Mo kc_Mo_recordAt kd_Mo_recordAt ⟨Nat.le_of_ble_eq_true rfl, Nat.le_of_ble_eq_true rfl⟩ (nw_recv hK.k hP (i := 0) (by decide) md_0 rfl) (hP) (hI) hl.1 rfl (Nat.le_of_ble_eq_true rfl) d_Mo_record_35 ⟨(Nat.le_of_ble_eq_true rfl), (Nat.le_of_ble_eq_true rfl)⟩ hS (na_le hS) (fun H1 locs1 hP1 hk1 hS => ?_)
  have hP : nw D vcl PM ad (mdC cy ad 0 false tp tn w cp cb we be lg co fi bn op ro t0) H1 := hP1
  generalize H1 = H at hP hS ⊢
  rw [ha]
  refine lv_istore_n (lv' := [(3, .int (nI a)), (0, .ref (ad 0)), (1, .int (nI i)), (2, .int (nI 2))]) hx hb d_Mo_record_38 rfl hl (by decide) rfl (fun ls hl => ?_)
  refine lv_iload_n hx hb d_Mo_record_39 rfl (lv_at hl 0 rfl) ?_
  refine lv_if_ge (tgt := 49) hx hb d_Mo_record_40 (by decide) (fun c40 => ?_) (fun c40 => absurd (nI_pos' (by omega)) c40)
  refine lv_iload_n hx hb d_Mo_record_49 rfl (lv_at hl 3 rfl) ?_
  refine lv_tableIn (tgt := 96) (off := 46) hx hb d_Mo_record_50 (by decide) (by decide) (by decide) (by decide) ?_
  refine lv_aload_n hx hb d_Mo_record_96 rfl (lv_at hl 1 rfl) ?_
  refine nw_get (D := D) (ci := 5) (C := R_Mo) (T := T_Mo) (N := 16) hx hb hts in_Mo hown hK.k hP (i := 0) (by decide) md_0 rfl 14 (by decide) (hts _ kf_Mo_35) rfl d_Mo_record_97 ?_
  refine lv_iload_n hx hb d_Mo_record_100 rfl (lv_at hl 0 rfl) ?_
  refine lv_iconst (v := nI 1) hx hb d_Mo_record_101 (by decide) ?_
  refine lv_iadd hx hb d_Mo_record_102 ?_
  refine lv_eqi (nI_add _ _) ?_
  refine nw_bald hx hb hK.k hP (i := 7) (by decide) md_7 0 rfl (vp_in_nI (by omega) (by omega)) d_Mo_record_103 ?_
  refine lv_eqi (y := sb_b (ro (a + 1))) (by rw [nI_clamp (by omega)]) ?_
  refine lv_sipush (v := nI 255) hx hb d_Mo_record_104 (by decide) ?_
  refine lv_iand hx hb d_Mo_record_107 ?_
  refine lv_eqi (y := nI (ro (a + 1))) (sb_and (HO _ (by omega))) ?_
  exact end_I F hr hlk rfl hP hS d_Mo_record_108
set_option maxRecDepth 100000 in
set_option maxHeartbeats 4000000 in
theorem c_Mo_record0_3 (l : Launch) (D : va_G) (cy : Nat → ClassId) (ad : Nat → Nat) (fl tn cp cb bn fo : Nat) (dn w : Bool) (tp we be co fi ro : Nat → Nat) (lg : Nat → Bool) (op : Option Nat) (i : Nat) (hi31 : i < 2 ^ 31) (r : Nat → Nat) (ln : Nat) (hln : cntL lg 24 = ln) (hrow : ∀ t, t < ln → bAt lg be t 24 0 = some (r t) ∧ r t < 24) (HB : ∀ b, b < 24 → be b < 2 ^ 31) (HQ : ∀ b, b < 24 → co b < 2 ^ 16) (HO : ∀ j, j < 48960 → ro j < 256) (HP : ∀ t, t < ln → ∀ q, q < co (r t) → plM ro (2040 * r t) q + 9 ≤ 48960) (t0 q0 a : Nat) (hf : fdR co r ln 0 i = some (t0, q0)) (ha : plM ro (2040 * r t0) q0 = a) (ha2 : a + 9 ≤ 48960) : mtI l y_Mo_record b_Mo_record 4 (some .int) RM D cy [.ref (ad 0), .int (nI i), .int (nI 3)] PM ad (mdC cy ad fl false tp tn w cp cb we be lg co fi bn op ro fo) (mdC cy ad 0 false tp tn w cp cb we be lg co fi bn op ro t0) (nI (num ro (a + 2) 2)) := by
  intro sz
  refine nm_ofW (cc := b_Mo_record) (maxL := 4) (ret := (some .int)) (own := R_Mo) (by decide) (Nat.le_of_ble_eq_true rfl) rfl ?_
  intro p e s m below meth c ls F hr hlk hnm hv hl
  obtain ⟨hx, hb, hml, hown, hts⟩ := id F
  obtain ⟨rfl, hP, hK, hI⟩ := hv
  have hD : nd (na PM ad s.heap.size) PM ad := nd_self hI
  have hA : ∀ q, s.heap.size ≤ q → na PM ad s.heap.size q := fun q h => Or.inr h
  have hS : va_S (na PM ad s.heap.size) s.heap s.heap [] := va_S.rf
  have hl : lv_has ls 4 [(0, .ref (ad 0)), (1, .int (nI i)), (2, .int (nI 3))] := hl
  refine lv_aload_n hx hb d_Mo_record_0 rfl (lv_at hl 0 rfl) ?_
  refine lv_iconst (v := nI 0) hx hb d_Mo_record_1 (by decide) ?_
  refine nw_put (D := D) (ci := 5) (C := R_Mo) (T := T_Mo) (N := 16) hx hb hts in_Mo ty_Mo tk_Mo nm_Mo hown hK.k hP hD hS (i := 0) (by decide) md_0 rfl 0 (by decide) (hts _ kf_Mo_38) rfl rfl rfl (Nat.le_of_ble_eq_true rfl) d_Mo_record_2 (fun H locs hP hS hz hq => ?_)
  have hP : nw D vcl PM ad (mdC cy ad 0 false tp tn w cp cb we be lg co fi bn op ro fo) H := nw_congr hP (mdu_fl)
  refine lv_iload_n hx hb d_Mo_record_5 rfl (lv_at hl 2 rfl) ?_
  refine lv_if_lt (tgt := 14) hx hb d_Mo_record_6 (by decide) (fun c6 => absurd c6 (nI_pos (by omega))) (fun c6 => ?_)
  refine lv_iload_n hx hb d_Mo_record_9 rfl (lv_at hl 2 rfl) ?_
  refine lv_iconst (v := nI 4) hx hb d_Mo_record_10 (by decide) ?_
  refine lv_icmp_le (tgt := 20) hx hb d_Mo_record_11 (by decide) (fun c11 => ?_) (fun c11 => absurd ((nI_leI (by omega) (by omega)).mpr (by omega)) c11)
  refine lv_aload_n hx hb d_Mo_record_20 rfl (lv_at hl 0 rfl) ?_
  refine nw_get (D := D) (ci := 5) (C := R_Mo) (T := T_Mo) (N := 16) hx hb hts in_Mo hown hK.k hP (i := 0) (by decide) md_0 rfl 1 (by decide) (hts _ kf_Mo_41) rfl d_Mo_record_21 ?_
  refine lv_if_eq (tgt := 33) hx hb d_Mo_record_24 (by decide) (fun c24 => ?_) (fun c24 => absurd (show bI false = 0 by decide) c24)
  refine lv_aload_n hx hb d_Mo_record_33 rfl (lv_at hl 0 rfl) ?_
  refine lv_iload_n hx hb d_Mo_record_34 rfl (lv_at hl 1 rfl) ?_
  refine call_I (As := [.int (nI i)]) (rest := []) F hK (c_Mo_recordAt1 l D cy ad 0 tn cp cb bn fo false w tp we be co fi ro lg op i hi31 r ln hln hrow HB HQ HO HP t0 q0 hf) km_Mo_91 ki_Mo_recordAt ks_Mo_recordAt k0_Mo kc_Mo_recordAt kd_Mo_recordAt ⟨Nat.le_of_ble_eq_true rfl, Nat.le_of_ble_eq_true rfl⟩ (nw_recv hK.k hP (i := 0) (by decide) md_0 rfl) (hP) (hI) hl.1 rfl (Nat.le_of_ble_eq_true rfl) d_Mo_record_35 ⟨(Nat.le_of_ble_eq_true rfl), (Nat.le_of_ble_eq_true rfl)⟩ hS (na_le hS) (fun H1 locs1 hP1 hk1 hS => ?_)
  have hP : nw D vcl PM ad (mdC cy ad 0 false tp tn w cp cb we be lg co fi bn op ro t0) H1 := hP1
  generalize H1 = H at hP hS ⊢
  rw [ha]
  refine lv_istore_n (lv' := [(3, .int (nI a)), (0, .ref (ad 0)), (1, .int (nI i)), (2, .int (nI 3))]) hx hb d_Mo_record_38 rfl hl (by decide) rfl (fun ls hl => ?_)
  refine lv_iload_n hx hb d_Mo_record_39 rfl (lv_at hl 0 rfl) ?_
  refine lv_if_ge (tgt := 49) hx hb d_Mo_record_40 (by decide) (fun c40 => ?_) (fun c40 => absurd (nI_pos' (by omega)) c40)
  refine lv_iload_n hx hb d_Mo_record_49 rfl (lv_at hl 3 rfl) ?_
  refine lv_tableIn (tgt := 109) (off := 59) hx hb d_Mo_record_50 (by decide) (by decide) (by decide) (by decide) ?_
  refine lv_aload_n hx hb d_Mo_record_109 rfl (lv_at hl 1 rfl) ?_
  refine lv_iload_n hx hb d_Mo_record_110 rfl (lv_at hl 0 rfl) ?_
  refine lv_iconst (v := nI 2) hx hb d_Mo_record_111 (by decide) ?_
  refine lv_iadd hx hb d_Mo_record_112 ?_
  refine lv_eqi (nI_add _ _) ?_
  refine lv_iconst (v := nI 2) hx hb d_Mo_record_113 (by decide) ?_
  refine call_R (As := [.int (nI (a + 2)), .int (nI 2)]) (rest := []) F hK (c_Mo_number l D cy ad 0 tn cp cb bn t0 false w tp we be co fi ro lg op (a + 2) 2 (by omega) (by omega) HO) km_Mo_81 ki_Mo_number ks_Mo_number k0_Mo kc_Mo_number kd_Mo_number ⟨Nat.le_of_ble_eq_true rfl, Nat.le_of_ble_eq_true rfl⟩ (nw_recv hK.k hP (i := 0) (by decide) md_0 rfl) (hP) (hI) hl.1 rfl (Nat.le_of_ble_eq_true rfl) d_Mo_record_114 ⟨(Nat.le_of_ble_eq_true rfl), (Nat.le_of_ble_eq_true rfl)⟩ hS (fun H1 locs1 hN hS => ?_)
  have hP := hN _ _ _ hP
  generalize H1 = H at hP hS ⊢
  exact end_I F hr hlk rfl hP hS d_Mo_record_117
set_option maxRecDepth 100000 in
set_option maxHeartbeats 4000000 in
theorem c_Mo_record0_4 (l : Launch) (D : va_G) (cy : Nat → ClassId) (ad : Nat → Nat) (fl tn cp cb bn fo : Nat) (dn w : Bool) (tp we be co fi ro : Nat → Nat) (lg : Nat → Bool) (op : Option Nat) (i : Nat) (hi31 : i < 2 ^ 31) (r : Nat → Nat) (ln : Nat) (hln : cntL lg 24 = ln) (hrow : ∀ t, t < ln → bAt lg be t 24 0 = some (r t) ∧ r t < 24) (HB : ∀ b, b < 24 → be b < 2 ^ 31) (HQ : ∀ b, b < 24 → co b < 2 ^ 16) (HO : ∀ j, j < 48960 → ro j < 256) (HP : ∀ t, t < ln → ∀ q, q < co (r t) → plM ro (2040 * r t) q + 9 ≤ 48960) (t0 q0 a : Nat) (hf : fdR co r ln 0 i = some (t0, q0)) (ha : plM ro (2040 * r t0) q0 = a) (ha2 : a + 9 ≤ 48960) : mtI l y_Mo_record b_Mo_record 4 (some .int) RM D cy [.ref (ad 0), .int (nI i), .int (nI 4)] PM ad (mdC cy ad fl false tp tn w cp cb we be lg co fi bn op ro fo) (mdC cy ad 0 false tp tn w cp cb we be lg co fi bn op ro t0) (nI (t0)) := by
  intro sz
  refine nm_ofW (cc := b_Mo_record) (maxL := 4) (ret := (some .int)) (own := R_Mo) (by decide) (Nat.le_of_ble_eq_true rfl) rfl ?_
  intro p e s m below meth c ls F hr hlk hnm hv hl
  obtain ⟨hx, hb, hml, hown, hts⟩ := id F
  obtain ⟨rfl, hP, hK, hI⟩ := hv
  have hD : nd (na PM ad s.heap.size) PM ad := nd_self hI
  have hA : ∀ q, s.heap.size ≤ q → na PM ad s.heap.size q := fun q h => Or.inr h
  have hS : va_S (na PM ad s.heap.size) s.heap s.heap [] := va_S.rf
  have hl : lv_has ls 4 [(0, .ref (ad 0)), (1, .int (nI i)), (2, .int (nI 4))] := hl
  refine lv_aload_n hx hb d_Mo_record_0 rfl (lv_at hl 0 rfl) ?_
  refine lv_iconst (v := nI 0) hx hb d_Mo_record_1 (by decide) ?_
  refine nw_put (D := D) (ci := 5) (C := R_Mo) (T := T_Mo) (N := 16) hx hb hts in_Mo ty_Mo tk_Mo nm_Mo hown hK.k hP hD hS (i := 0) (by decide) md_0 rfl 0 (by decide) (hts _ kf_Mo_38) rfl rfl rfl (Nat.le_of_ble_eq_true rfl) d_Mo_record_2 (fun H locs hP hS hz hq => ?_)
  have hP : nw D vcl PM ad (mdC cy ad 0 false tp tn w cp cb we be lg co fi bn op ro fo) H := nw_congr hP (mdu_fl)
  refine lv_iload_n hx hb d_Mo_record_5 rfl (lv_at hl 2 rfl) ?_
  refine lv_if_lt (tgt := 14) hx hb d_Mo_record_6 (by decide) (fun c6 => absurd c6 (nI_pos (by omega))) (fun c6 => ?_)
  refine lv_iload_n hx hb d_Mo_record_9 rfl (lv_at hl 2 rfl) ?_
  refine lv_iconst (v := nI 4) hx hb d_Mo_record_10 (by decide) ?_
  refine lv_icmp_le (tgt := 20) hx hb d_Mo_record_11 (by decide) (fun c11 => ?_) (fun c11 => absurd ((nI_leI (by omega) (by omega)).mpr (by omega)) c11)
  refine lv_aload_n hx hb d_Mo_record_20 rfl (lv_at hl 0 rfl) ?_
  refine nw_get (D := D) (ci := 5) (C := R_Mo) (T := T_Mo) (N := 16) hx hb hts in_Mo hown hK.k hP (i := 0) (by decide) md_0 rfl 1 (by decide) (hts _ kf_Mo_41) rfl d_Mo_record_21 ?_
  refine lv_if_eq (tgt := 33) hx hb d_Mo_record_24 (by decide) (fun c24 => ?_) (fun c24 => absurd (show bI false = 0 by decide) c24)
  refine lv_aload_n hx hb d_Mo_record_33 rfl (lv_at hl 0 rfl) ?_
  refine lv_iload_n hx hb d_Mo_record_34 rfl (lv_at hl 1 rfl) ?_
  refine call_I (As := [.int (nI i)]) (rest := []) F hK (c_Mo_recordAt1 l D cy ad 0 tn cp cb bn fo false w tp we be co fi ro lg op i hi31 r ln hln hrow HB HQ HO HP t0 q0 hf) km_Mo_91 ki_Mo_recordAt ks_Mo_recordAt k0_Mo kc_Mo_recordAt kd_Mo_recordAt ⟨Nat.le_of_ble_eq_true rfl, Nat.le_of_ble_eq_true rfl⟩ (nw_recv hK.k hP (i := 0) (by decide) md_0 rfl) (hP) (hI) hl.1 rfl (Nat.le_of_ble_eq_true rfl) d_Mo_record_35 ⟨(Nat.le_of_ble_eq_true rfl), (Nat.le_of_ble_eq_true rfl)⟩ hS (na_le hS) (fun H1 locs1 hP1 hk1 hS => ?_)
  have hP : nw D vcl PM ad (mdC cy ad 0 false tp tn w cp cb we be lg co fi bn op ro t0) H1 := hP1
  generalize H1 = H at hP hS ⊢
  rw [ha]
  refine lv_istore_n (lv' := [(3, .int (nI a)), (0, .ref (ad 0)), (1, .int (nI i)), (2, .int (nI 4))]) hx hb d_Mo_record_38 rfl hl (by decide) rfl (fun ls hl => ?_)
  refine lv_iload_n hx hb d_Mo_record_39 rfl (lv_at hl 0 rfl) ?_
  refine lv_if_ge (tgt := 49) hx hb d_Mo_record_40 (by decide) (fun c40 => ?_) (fun c40 => absurd (nI_pos' (by omega)) c40)
  refine lv_iload_n hx hb d_Mo_record_49 rfl (lv_at hl 3 rfl) ?_
  refine lv_tableOut (tgt := 118) hx hb d_Mo_record_50 (by decide) (by decide) ?_
  refine lv_aload_n hx hb d_Mo_record_118 rfl (lv_at hl 1 rfl) ?_
  refine nw_get (D := D) (ci := 5) (C := R_Mo) (T := T_Mo) (N := 16) hx hb hts in_Mo hown hK.k hP (i := 0) (by decide) md_0 rfl 15 (by decide) (hts _ kf_Mo_85) rfl d_Mo_record_119 ?_
  exact end_I F hr hlk rfl hP hS d_Mo_record_122
/-- a callee that answers a long -/
abbrev mtJ (l : Launch) (y : MethodName) (cc : ByteArray) (maxL : Nat) (ret : Option FieldType) (rm : Room) (D : va_G) (cy : Nat → ClassId) (av : List Value) (P : Nat → Prop) (ad : Nat → Nat) (ct ct1 : Nat → va_E) (r : Int64) : Prop :=
  ∀ sz : Nat, Met l y (Cond.code y cc maxL ret :: TG) rm (va_Pc av (fun U => U.heap.size = sz ∧ pre0 D cy P ad ct U)) (va_Ql (fun r' (_ : Unit) => r' = r) (fun _ t => nw D vcl P ad ct1 t.heap) (na P ad sz)) rm.cells rm.slots (na P ad sz)
section EL
variable {p : Program} {l : Launch} {e : Env} {R : Room} {s : State} {m : MethodId} {args : Array Value} {below : List Frame} {meth : Method} {c : Code} {H : Heap} {locs : List Loc} {cells slots : Nat} {cc : ByteArray} {pc nL : Nat} {ls : Array Slot} {D : va_G} {own : String}
theorem end_L {P : Nat → Prop} {ad : Nat → Nat} {ct1 : Nat → va_E} {sz : Nat} {r : Int64} (F : CallFix p m c cc nL s args TG own) (hr : meth.sig.returnType = some .long) (hlk : meth.locks = false) (hP : nw D vcl P ad ct1 H) (hS : va_S (na P ad sz) s.heap H locs) (hdg : decode cc pc = .ok (.lreturn, 1)) : W p l e R s m args below meth c H locs cells slots (MQ below (va_Ql (fun r' (_ : Unit) => r' = r) (fun _ t => nw D vcl P ad ct1 t.heap) (na P ad sz)) args s cells slots (na P ad sz)) (F0 m pc ls [.long r]) :=
  W.lret F.1 F.2.1 hr (fun t ht hW => ⟨⟨r, (), rfl, rfl, by show nw D vcl P ad ct1 t.heap; rw [ht]; exact hP⟩, hS.F ht⟩) hS.2.2 hdg hlk
end EL
theorem k_c256 : Cond.constantLong R_Mo 94 256 ∈ TG := by decide +kernel
theorem nI_l6 {c : Nat} (h : c < 256) : (nI c).toInt64 = Int64.ofNat c := by
  apply Int64.toInt_inj.mp
  rw [Int32.toInt_toInt64]
  unfold nI
  rw [Int32.toInt_ofNat_of_lt (by omega), Int64.toInt_ofNat_of_lt (by omega)]
set_option maxRecDepth 100000 in
set_option maxHeartbeats 4000000 in
theorem c_Mo_word1 (l : Launch) (D : va_G) (cy : Nat → ClassId) (ad : Nat → Nat) (fl tn cp cb bn fo : Nat) (dn w : Bool) (tp we be co fi ro : Nat → Nat) (lg : Nat → Bool) (op : Option Nat) (x y : Int32) : mtJ l y_Mo_word b_Mo_word 8 (some .long) RM D cy [.ref (ad 0), .int (x), .int (y)] PM ad (mdC cy ad fl true tp tn w cp cb we be lg co fi bn op ro fo) (mdC cy ad 1 true tp tn w cp cb we be lg co fi bn op ro fo) (0) := by
  intro sz
  refine nm_ofW (cc := b_Mo_word) (maxL := 8) (ret := (some .long)) (own := R_Mo) (by decide) (Nat.le_of_ble_eq_true rfl) rfl ?_
  intro p e s m below meth c ls F hr hlk hnm hv hl
  obtain ⟨hx, hb, hml, hown, hts⟩ := id F
  obtain ⟨rfl, hP, hK, hI⟩ := hv
  have hD : nd (na PM ad s.heap.size) PM ad := nd_self hI
  have hA : ∀ q, s.heap.size ≤ q → na PM ad s.heap.size q := fun q h => Or.inr h
  have hS : va_S (na PM ad s.heap.size) s.heap s.heap [] := va_S.rf
  have hl : lv_has ls 8 [(0, .ref (ad 0)), (1, .int (x)), (2, .int (y))] := hl
  refine lv_aload_n hx hb d_Mo_word_0 rfl (lv_at hl 0 rfl) ?_
  refine lv_iconst (v := nI 0) hx hb d_Mo_word_1 (by decide) ?_
  refine nw_put (D := D) (ci := 5) (C := R_Mo) (T := T_Mo) (N := 16) hx hb hts in_Mo ty_Mo tk_Mo nm_Mo hown hK.k hP hD hS (i := 0) (by decide) md_0 rfl 0 (by decide) (hts _ kf_Mo_38) rfl rfl rfl (Nat.le_of_ble_eq_true rfl) d_Mo_word_2 (fun H locs hP hS hz hq => ?_)
  have hP : nw D vcl PM ad (mdC cy ad 0 true tp tn w cp cb we be lg co fi bn op ro fo) H := nw_congr hP (mdu_fl)
  refine lv_aload_n hx hb d_Mo_word_5 rfl (lv_at hl 0 rfl) ?_
  refine nw_get (D := D) (ci := 5) (C := R_Mo) (T := T_Mo) (N := 16) hx hb hts in_Mo hown hK.k hP (i := 0) (by decide) md_0 rfl 1 (by decide) (hts _ kf_Mo_41) rfl d_Mo_word_6 ?_
  refine lv_if_eq (tgt := 19) hx hb d_Mo_word_9 (by decide) (fun c9 => absurd c9 (show ¬ bI true = 0 by decide)) (fun c9 => ?_)
  refine lv_aload_n hx hb d_Mo_word_12 rfl (lv_at hl 0 rfl) ?_
  refine lv_iconst (v := nI 1) hx hb d_Mo_word_13 (by decide) ?_
  refine call_I (As := [.int (nI 1)]) (rest := []) F hK (c_Mo_fail l D cy ad 0 tn cp cb bn fo true w tp we be co fi ro lg op 1) km_Mo_45 ki_Mo_fail ks_Mo_fail k0_Mo kc_Mo_fail kd_Mo_fail ⟨Nat.le_of_ble_eq_true rfl, Nat.le_of_ble_eq_true rfl⟩ (nw_recv hK.k hP (i := 0) (by decide) md_0 rfl) (hP) (hI) hl.1 rfl (Nat.le_of_ble_eq_true rfl) d_Mo_word_14 ⟨(Nat.le_of_ble_eq_true rfl), (Nat.le_of_ble_eq_true rfl)⟩ hS (na_le hS) (fun H1 locs1 hP1 hk1 hS => ?_)
  have hP : nw D vcl PM ad (mdC cy ad 1 true tp tn w cp cb we be lg co fi bn op ro fo) H1 := hP1
  generalize H1 = H at hP hS ⊢
  refine lv_i2l hx hb d_Mo_word_17 rfl ?_
  refine lv_eql (y := 0) (by decide) ?_
  exact end_L F hr hlk hP hS d_Mo_word_18
set_option maxRecDepth 100000 in
set_option maxHeartbeats 4000000 in
theorem c_Mo_word2 (l : Launch) (D : va_G) (cy : Nat → ClassId) (ad : Nat → Nat) (fl tn cp cb bn fo : Nat) (dn w : Bool) (tp we be co fi ro : Nat → Nat) (lg : Nat → Bool) (op : Option Nat) (x y : Int32) (hx0 : x < 0) : mtJ l y_Mo_word b_Mo_word 8 (some .long) RM D cy [.ref (ad 0), .int (x), .int (y)] PM ad (mdC cy ad fl false tp tn w cp cb we be lg co fi bn op ro fo) (mdC cy ad 2 false tp tn w cp cb we be lg co fi bn op ro fo) (0) := by
  intro sz
  refine nm_ofW (cc := b_Mo_word) (maxL := 8) (ret := (some .long)) (own := R_Mo) (by decide) (Nat.le_of_ble_eq_true rfl) rfl ?_
  intro p e s m below meth c ls F hr hlk hnm hv hl
  obtain ⟨hx, hb, hml, hown, hts⟩ := id F
  obtain ⟨rfl, hP, hK, hI⟩ := hv
  have hD : nd (na PM ad s.heap.size) PM ad := nd_self hI
  have hA : ∀ q, s.heap.size ≤ q → na PM ad s.heap.size q := fun q h => Or.inr h
  have hS : va_S (na PM ad s.heap.size) s.heap s.heap [] := va_S.rf
  have hl : lv_has ls 8 [(0, .ref (ad 0)), (1, .int (x)), (2, .int (y))] := hl
  refine lv_aload_n hx hb d_Mo_word_0 rfl (lv_at hl 0 rfl) ?_
  refine lv_iconst (v := nI 0) hx hb d_Mo_word_1 (by decide) ?_
  refine nw_put (D := D) (ci := 5) (C := R_Mo) (T := T_Mo) (N := 16) hx hb hts in_Mo ty_Mo tk_Mo nm_Mo hown hK.k hP hD hS (i := 0) (by decide) md_0 rfl 0 (by decide) (hts _ kf_Mo_38) rfl rfl rfl (Nat.le_of_ble_eq_true rfl) d_Mo_word_2 (fun H locs hP hS hz hq => ?_)
  have hP : nw D vcl PM ad (mdC cy ad 0 false tp tn w cp cb we be lg co fi bn op ro fo) H := nw_congr hP (mdu_fl)
  refine lv_aload_n hx hb d_Mo_word_5 rfl (lv_at hl 0 rfl) ?_
  refine nw_get (D := D) (ci := 5) (C := R_Mo) (T := T_Mo) (N := 16) hx hb hts in_Mo hown hK.k hP (i := 0) (by decide) md_0 rfl 1 (by decide) (hts _ kf_Mo_41) rfl d_Mo_word_6 ?_
  refine lv_if_eq (tgt := 19) hx hb d_Mo_word_9 (by decide) (fun c9 => ?_) (fun c9 => absurd (show bI false = 0 by decide) c9)
  refine lv_aload_n hx hb d_Mo_word_19 rfl (lv_at hl 0 rfl) ?_
  refine lv_iload_n hx hb d_Mo_word_20 rfl (lv_at hl 1 rfl) ?_
  refine call_I (As := [.int (x)]) (rest := []) F hK (c_Mo_recordAtN l D cy ad 0 tn cp cb bn fo false w tp we be co fi ro lg op x hx0) km_Mo_91 ki_Mo_recordAt ks_Mo_recordAt k0_Mo kc_Mo_recordAt kd_Mo_recordAt ⟨Nat.le_of_ble_eq_true rfl, Nat.le_of_ble_eq_true rfl⟩ (nw_recv hK.k hP (i := 0) (by decide) md_0 rfl) (hP) (hI) hl.1 rfl (Nat.le_of_ble_eq_true rfl) d_Mo_word_21 ⟨(Nat.le_of_ble_eq_true rfl), (Nat.le_of_ble_eq_true rfl)⟩ hS (na_le hS) (fun H1 locs1 hP1 hk1 hS => ?_)
  have hP : nw D vcl PM ad (mdC cy ad 0 false tp tn w cp cb we be lg co fi bn op ro fo) H1 := hP1
  generalize H1 = H at hP hS ⊢
  refine lv_istore_n (lv' := [(3, .int (-1)), (0, .ref (ad 0)), (1, .int (x)), (2, .int (y))]) hx hb d_Mo_word_24 rfl hl (by decide) rfl (fun ls hl => ?_)
  refine lv_iload_n hx hb d_Mo_word_25 rfl (lv_at hl 0 rfl) ?_
  refine lv_if_ge (tgt := 36) hx hb d_Mo_word_26 (by decide) (fun c26 => absurd c26 (show ¬ (0 : Int32) ≤ -1 by decide)) (fun c26 => ?_)
  refine lv_aload_n hx hb d_Mo_word_29 rfl (lv_at hl 1 rfl) ?_
  refine lv_iconst (v := nI 2) hx hb d_Mo_word_30 (by decide) ?_
  refine call_I (As := [.int (nI 2)]) (rest := []) F hK (c_Mo_fail l D cy ad 0 tn cp cb bn fo false w tp we be co fi ro lg op 2) km_Mo_45 ki_Mo_fail ks_Mo_fail k0_Mo kc_Mo_fail kd_Mo_fail ⟨Nat.le_of_ble_eq_true rfl, Nat.le_of_ble_eq_true rfl⟩ (nw_recv hK.k hP (i := 0) (by decide) md_0 rfl) (hP) (hI) hl.1 rfl (Nat.le_of_ble_eq_true rfl) d_Mo_word_31 ⟨(Nat.le_of_ble_eq_true rfl), (Nat.le_of_ble_eq_true rfl)⟩ hS (na_le hS) (fun H1 locs1 hP1 hk1 hS => ?_)
  have hP : nw D vcl PM ad (mdC cy ad 2 false tp tn w cp cb we be lg co fi bn op ro fo) H1 := hP1
  generalize H1 = H at hP hS ⊢
  refine lv_i2l hx hb d_Mo_word_34 rfl ?_
  refine lv_eql (y := 0) (by decide) ?_
  exact end_L F hr hlk hP hS d_Mo_word_35
set_option maxRecDepth 100000 in
set_option maxHeartbeats 4000000 in
theorem c_Mo_word3 (l : Launch) (D : va_G) (cy : Nat → ClassId) (ad : Nat → Nat) (fl tn cp cb bn fo : Nat) (dn w : Bool) (tp we be co fi ro : Nat → Nat) (lg : Nat → Bool) (op : Option Nat) (i : Nat) (y : Int32) (hi31 : i < 2 ^ 31) (r : Nat → Nat) (ln : Nat) (hln : cntL lg 24 = ln) (hrow : ∀ t, t < ln → bAt lg be t 24 0 = some (r t) ∧ r t < 24) (HB : ∀ b, b < 24 → be b < 2 ^ 31) (HQ : ∀ b, b < 24 → co b < 2 ^ 16) (HO : ∀ j, j < 48960 → ro j < 256) (HP : ∀ t, t < ln → ∀ q, q < co (r t) → plM ro (2040 * r t) q + 9 ≤ 48960) (hf : fdR co r ln 0 i = none) : mtJ l y_Mo_word b_Mo_word 8 (some .long) RM D cy [.ref (ad 0), .int (nI i), .int (y)] PM ad (mdC cy ad fl false tp tn w cp cb we be lg co fi bn op ro fo) (mdC cy ad 2 false tp tn w cp cb we be lg co fi bn op ro ln) (0) := by
  intro sz
  refine nm_ofW (cc := b_Mo_word) (maxL := 8) (ret := (some .long)) (own := R_Mo) (by decide) (Nat.le_of_ble_eq_true rfl) rfl ?_
  intro p e s m below meth c ls F hr hlk hnm hv hl
  obtain ⟨hx, hb, hml, hown, hts⟩ := id F
  obtain ⟨rfl, hP, hK, hI⟩ := hv
  have hD : nd (na PM ad s.heap.size) PM ad := nd_self hI
  have hA : ∀ q, s.heap.size ≤ q → na PM ad s.heap.size q := fun q h => Or.inr h
  have hS : va_S (na PM ad s.heap.size) s.heap s.heap [] := va_S.rf
  have hl : lv_has ls 8 [(0, .ref (ad 0)), (1, .int (nI i)), (2, .int (y))] := hl
  refine lv_aload_n hx hb d_Mo_word_0 rfl (lv_at hl 0 rfl) ?_
  refine lv_iconst (v := nI 0) hx hb d_Mo_word_1 (by decide) ?_
  refine nw_put (D := D) (ci := 5) (C := R_Mo) (T := T_Mo) (N := 16) hx hb hts in_Mo ty_Mo tk_Mo nm_Mo hown hK.k hP hD hS (i := 0) (by decide) md_0 rfl 0 (by decide) (hts _ kf_Mo_38) rfl rfl rfl (Nat.le_of_ble_eq_true rfl) d_Mo_word_2 (fun H locs hP hS hz hq => ?_)
  have hP : nw D vcl PM ad (mdC cy ad 0 false tp tn w cp cb we be lg co fi bn op ro fo) H := nw_congr hP (mdu_fl)
  refine lv_aload_n hx hb d_Mo_word_5 rfl (lv_at hl 0 rfl) ?_
  refine nw_get (D := D) (ci := 5) (C := R_Mo) (T := T_Mo) (N := 16) hx hb hts in_Mo hown hK.k hP (i := 0) (by decide) md_0 rfl 1 (by decide) (hts _ kf_Mo_41) rfl d_Mo_word_6 ?_
  refine lv_if_eq (tgt := 19) hx hb d_Mo_word_9 (by decide) (fun c9 => ?_) (fun c9 => absurd (show bI false = 0 by decide) c9)
  refine lv_aload_n hx hb d_Mo_word_19 rfl (lv_at hl 0 rfl) ?_
  refine lv_iload_n hx hb d_Mo_word_20 rfl (lv_at hl 1 rfl) ?_
  refine call_I (As := [.int (nI i)]) (rest := []) F hK (c_Mo_recordAt0 l D cy ad 0 tn cp cb bn fo false w tp we be co fi ro lg op i hi31 r ln hln hrow HB HQ HO HP hf) km_Mo_91 ki_Mo_recordAt ks_Mo_recordAt k0_Mo kc_Mo_recordAt kd_Mo_recordAt ⟨Nat.le_of_ble_eq_true rfl, Nat.le_of_ble_eq_true rfl⟩ (nw_recv hK.k hP (i := 0) (by decide) md_0 rfl) (hP) (hI) hl.1 rfl (Nat.le_of_ble_eq_true rfl) d_Mo_word_21 ⟨(Nat.le_of_ble_eq_true rfl), (Nat.le_of_ble_eq_true rfl)⟩ hS (na_le hS) (fun H1 locs1 hP1 hk1 hS => ?_)
  have hP : nw D vcl PM ad (mdC cy ad 0 false tp tn w cp cb we be lg co fi bn op ro ln) H1 := hP1
  generalize H1 = H at hP hS ⊢
  refine lv_istore_n (lv' := [(3, .int (-1)), (0, .ref (ad 0)), (1, .int (nI i)), (2, .int (y))]) hx hb d_Mo_word_24 rfl hl (by decide) rfl (fun ls hl => ?_)
  refine lv_iload_n hx hb d_Mo_word_25 rfl (lv_at hl 0 rfl) ?_
  refine lv_if_ge (tgt := 36) hx hb d_Mo_word_26 (by decide) (fun c26 => absurd c26 (show ¬ (0 : Int32) ≤ -1 by decide)) (fun c26 => ?_)
  refine lv_aload_n hx hb d_Mo_word_29 rfl (lv_at hl 1 rfl) ?_
  refine lv_iconst (v := nI 2) hx hb d_Mo_word_30 (by decide) ?_
  refine call_I (As := [.int (nI 2)]) (rest := []) F hK (c_Mo_fail l D cy ad 0 tn cp cb bn ln false w tp we be co fi ro lg op 2) km_Mo_45 ki_Mo_fail ks_Mo_fail k0_Mo kc_Mo_fail kd_Mo_fail ⟨Nat.le_of_ble_eq_true rfl, Nat.le_of_ble_eq_true rfl⟩ (nw_recv hK.k hP (i := 0) (by decide) md_0 rfl) (hP) (hI) hl.1 rfl (Nat.le_of_ble_eq_true rfl) d_Mo_word_31 ⟨(Nat.le_of_ble_eq_true rfl), (Nat.le_of_ble_eq_true rfl)⟩ hS (na_le hS) (fun H1 locs1 hP1 hk1 hS => ?_)
  have hP : nw D vcl PM ad (mdC cy ad 2 false tp tn w cp cb we be lg co fi bn op ro ln) H1 := hP1
  generalize H1 = H at hP hS ⊢
  refine lv_i2l hx hb d_Mo_word_34 rfl ?_
  refine lv_eql (y := 0) (by decide) ?_
  exact end_L F hr hlk hP hS d_Mo_word_35
set_option maxRecDepth 100000 in
set_option maxHeartbeats 4000000 in
theorem c_Mo_word4 (l : Launch) (D : va_G) (cy : Nat → ClassId) (ad : Nat → Nat) (fl tn cp cb bn fo : Nat) (dn w : Bool) (tp we be co fi ro : Nat → Nat) (lg : Nat → Bool) (op : Option Nat) (i : Nat) (y : Int32) (hi31 : i < 2 ^ 31) (r : Nat → Nat) (ln : Nat) (hln : cntL lg 24 = ln) (hrow : ∀ t, t < ln → bAt lg be t 24 0 = some (r t) ∧ r t < 24) (HB : ∀ b, b < 24 → be b < 2 ^ 31) (HQ : ∀ b, b < 24 → co b < 2 ^ 16) (HO : ∀ j, j < 48960 → ro j < 256) (HP : ∀ t, t < ln → ∀ q, q < co (r t) → plM ro (2040 * r t) q + 9 ≤ 48960) (t0 q0 a : Nat) (hf : fdR co r ln 0 i = some (t0, q0)) (ha : plM ro (2040 * r t0) q0 = a) (ha2 : a + 9 ≤ 48960) (n : Nat) (hn : ro (a + 1) + num ro (a + 2) 2 = n) (hn1 : n < 2 ^ 20) (h : y < 0 ∨ nI n ≤ y) : mtJ l y_Mo_word b_Mo_word 8 (some .long) RM D cy [.ref (ad 0), .int (nI i), .int (y)] PM ad (mdC cy ad fl false tp tn w cp cb we be lg co fi bn op ro fo) (mdC cy ad 3 false tp tn w cp cb we be lg co fi bn op ro t0) (0) := by
  intro sz
  refine nm_ofW (cc := b_Mo_word) (maxL := 8) (ret := (some .long)) (own := R_Mo) (by decide) (Nat.le_of_ble_eq_true rfl) rfl ?_
  intro p e s m below meth c ls F hr hlk hnm hv hl
  obtain ⟨hx, hb, hml, hown, hts⟩ := id F
  obtain ⟨rfl, hP, hK, hI⟩ := hv
  have hD : nd (na PM ad s.heap.size) PM ad := nd_self hI
  have hA : ∀ q, s.heap.size ≤ q → na PM ad s.heap.size q := fun q h => Or.inr h
  have hS : va_S (na PM ad s.heap.size) s.heap s.heap [] := va_S.rf
  have hl : lv_has ls 8 [(0, .ref (ad 0)), (1, .int (nI i)), (2, .int (y))] := hl
  refine lv_aload_n hx hb d_Mo_word_0 rfl (lv_at hl 0 rfl) ?_
  refine lv_iconst (v := nI 0) hx hb d_Mo_word_1 (by decide) ?_
  refine nw_put (D := D) (ci := 5) (C := R_Mo) (T := T_Mo) (N := 16) hx hb hts in_Mo ty_Mo tk_Mo nm_Mo hown hK.k hP hD hS (i := 0) (by decide) md_0 rfl 0 (by decide) (hts _ kf_Mo_38) rfl rfl rfl (Nat.le_of_ble_eq_true rfl) d_Mo_word_2 (fun H locs hP hS hz hq => ?_)
  have hP : nw D vcl PM ad (mdC cy ad 0 false tp tn w cp cb we be lg co fi bn op ro fo) H := nw_congr hP (mdu_fl)
  refine lv_aload_n hx hb d_Mo_word_5 rfl (lv_at hl 0 rfl) ?_
  refine nw_get (D := D) (ci := 5) (C := R_Mo) (T := T_Mo) (N := 16) hx hb hts in_Mo hown hK.k hP (i := 0) (by decide) md_0 rfl 1 (by decide) (hts _ kf_Mo_41) rfl d_Mo_word_6 ?_
  refine lv_if_eq (tgt := 19) hx hb d_Mo_word_9 (by decide) (fun c9 => ?_) (fun c9 => absurd (show bI false = 0 by decide) c9)
  refine lv_aload_n hx hb d_Mo_word_19 rfl (lv_at hl 0 rfl) ?_
  refine lv_iload_n hx hb d_Mo_word_20 rfl (lv_at hl 1 rfl) ?_
  refine call_I (As := [.int (nI i)]) (rest := []) F hK (c_Mo_recordAt1 l D cy ad 0 tn cp cb bn fo false w tp we be co fi ro lg op i hi31 r ln hln hrow HB HQ HO HP t0 q0 hf) km_Mo_91 ki_Mo_recordAt ks_Mo_recordAt k0_Mo kc_Mo_recordAt kd_Mo_recordAt ⟨Nat.le_of_ble_eq_true rfl, Nat.le_of_ble_eq_true rfl⟩ (nw_recv hK.k hP (i := 0) (by decide) md_0 rfl) (hP) (hI) hl.1 rfl (Nat.le_of_ble_eq_true rfl) d_Mo_word_21 ⟨(Nat.le_of_ble_eq_true rfl), (Nat.le_of_ble_eq_true rfl)⟩ hS (na_le hS) (fun H1 locs1 hP1 hk1 hS => ?_)
  have hP : nw D vcl PM ad (mdC cy ad 0 false tp tn w cp cb we be lg co fi bn op ro t0) H1 := hP1
  generalize H1 = H at hP hS ⊢
  rw [ha]
  refine lv_istore_n (lv' := [(3, .int (nI a)), (0, .ref (ad 0)), (1, .int (nI i)), (2, .int (y))]) hx hb d_Mo_word_24 rfl hl (by decide) rfl (fun ls hl => ?_)
  refine lv_iload_n hx hb d_Mo_word_25 rfl (lv_at hl 0 rfl) ?_
  refine lv_if_ge (tgt := 36) hx hb d_Mo_word_26 (by decide) (fun c26 => ?_) (fun c26 => absurd (nI_pos' (by omega)) c26)
  refine lv_aload_n hx hb d_Mo_word_36 rfl (lv_at hl 1 rfl) ?_
  refine lv_iload_n hx hb d_Mo_word_37 rfl (lv_at hl 0 rfl) ?_
  refine call_R (As := [.int (nI a)]) (rest := []) F hK (c_Mo_sizeAt l D cy ad 0 tn cp cb bn t0 false w tp we be co fi ro lg op a (by omega) HO) km_Mo_88 ki_Mo_sizeAt ks_Mo_sizeAt k0_Mo kc_Mo_sizeAt kd_Mo_sizeAt ⟨Nat.le_of_ble_eq_true rfl, Nat.le_of_ble_eq_true rfl⟩ (nw_recv hK.k hP (i := 0) (by decide) md_0 rfl) (hP) (hI) hl.1 rfl (Nat.le_of_ble_eq_true rfl) d_Mo_word_38 ⟨(Nat.le_of_ble_eq_true rfl), (Nat.le_of_ble_eq_true rfl)⟩ hS (fun H1 locs1 hN hS => ?_)
  have hP := hN _ _ _ hP
  generalize H1 = H at hP hS ⊢
  rw [hn]
  refine lv_istore (lv' := [(4, .int (nI n)), (3, .int (nI a)), (0, .ref (ad 0)), (1, .int (nI i)), (2, .int (y))]) hx hb d_Mo_word_41 hl (by decide) rfl (fun ls hl => ?_)
  refine lv_iload_n hx hb d_Mo_word_43 rfl (lv_at hl 4 rfl) ?_
  refine lv_if_lt (tgt := 53) hx hb d_Mo_word_44 (by decide) (fun c44 => ?_) (fun c44 => ?_)
  · refine lv_aload_n hx hb d_Mo_word_53 rfl (lv_at hl 2 rfl) ?_
    refine lv_iconst (v := nI 3) hx hb d_Mo_word_54 (by decide) ?_
    refine call_I (As := [.int (nI 3)]) (rest := []) F hK (c_Mo_fail l D cy ad 0 tn cp cb bn t0 false w tp we be co fi ro lg op 3) km_Mo_45 ki_Mo_fail ks_Mo_fail k0_Mo kc_Mo_fail kd_Mo_fail ⟨Nat.le_of_ble_eq_true rfl, Nat.le_of_ble_eq_true rfl⟩ (nw_recv hK.k hP (i := 0) (by decide) md_0 rfl) (hP) (hI) hl.1 rfl (Nat.le_of_ble_eq_true rfl) d_Mo_word_55 ⟨(Nat.le_of_ble_eq_true rfl), (Nat.le_of_ble_eq_true rfl)⟩ hS (na_le hS) (fun H1 locs1 hP1 hk1 hS => ?_)
    have hP : nw D vcl PM ad (mdC cy ad 3 false tp tn w cp cb we be lg co fi bn op ro t0) H1 := hP1
    generalize H1 = H at hP hS ⊢
    refine lv_i2l hx hb d_Mo_word_58 rfl ?_
    refine lv_eql (y := 0) (by decide) ?_
    exact end_L F hr hlk hP hS d_Mo_word_59
  · refine lv_iload_n hx hb d_Mo_word_47 rfl (lv_at hl 4 rfl) ?_
    refine lv_iload hx hb d_Mo_word_48 (lv_at hl 0 rfl) ?_
    refine lv_icmp_lt (tgt := 60) hx hb d_Mo_word_50 (by decide) (fun c50 => absurd c50 (Int32.not_lt.mpr (h.resolve_left c44))) (fun c50 => ?_)
    refine lv_aload_n hx hb d_Mo_word_53 rfl (lv_at hl 2 rfl) ?_
    refine lv_iconst (v := nI 3) hx hb d_Mo_word_54 (by decide) ?_
    refine call_I (As := [.int (nI 3)]) (rest := []) F hK (c_Mo_fail l D cy ad 0 tn cp cb bn t0 false w tp we be co fi ro lg op 3) km_Mo_45 ki_Mo_fail ks_Mo_fail k0_Mo kc_Mo_fail kd_Mo_fail ⟨Nat.le_of_ble_eq_true rfl, Nat.le_of_ble_eq_true rfl⟩ (nw_recv hK.k hP (i := 0) (by decide) md_0 rfl) (hP) (hI) hl.1 rfl (Nat.le_of_ble_eq_true rfl) d_Mo_word_55 ⟨(Nat.le_of_ble_eq_true rfl), (Nat.le_of_ble_eq_true rfl)⟩ hS (na_le hS) (fun H1 locs1 hP1 hk1 hS => ?_)
    have hP : nw D vcl PM ad (mdC cy ad 3 false tp tn w cp cb we be lg co fi bn op ro t0) H1 := hP1
    generalize H1 = H at hP hS ⊢
    refine lv_i2l hx hb d_Mo_word_58 rfl ?_
    refine lv_eql (y := 0) (by decide) ?_
    exact end_L F hr hlk hP hS d_Mo_word_59
set_option maxRecDepth 100000 in
set_option maxHeartbeats 4000000 in
theorem c_Mo_word0 (l : Launch) (D : va_G) (cy : Nat → ClassId) (ad : Nat → Nat) (fl tn cp cb bn fo : Nat) (dn w : Bool) (tp we be co fi ro : Nat → Nat) (lg : Nat → Bool) (op : Option Nat) (i j : Nat) (hi31 : i < 2 ^ 31) (r : Nat → Nat) (ln : Nat) (hln : cntL lg 24 = ln) (hrow : ∀ t, t < ln → bAt lg be t 24 0 = some (r t) ∧ r t < 24) (HB : ∀ b, b < 24 → be b < 2 ^ 31) (HQ : ∀ b, b < 24 → co b < 2 ^ 16) (HO : ∀ j, j < 48960 → ro j < 256) (HP : ∀ t, t < ln → ∀ q, q < co (r t) → plM ro (2040 * r t) q + 9 ≤ 48960) (t0 q0 a : Nat) (hf : fdR co r ln 0 i = some (t0, q0)) (ha : plM ro (2040 * r t0) q0 = a) (ha2 : a + 9 ≤ 48960) (n : Nat) (hn : ro (a + 1) + num ro (a + 2) 2 = n) (hn1 : n < 2 ^ 20) (hj : j < n) (hroom : a + 9 + n ≤ 48960) : mtJ l y_Mo_word b_Mo_word 8 (some .long) RM D cy [.ref (ad 0), .int (nI i), .int (nI j)] PM ad (mdC cy ad fl false tp tn w cp cb we be lg co fi bn op ro fo) (mdC cy ad 0 false tp tn w cp cb we be lg co fi bn op ro t0) (wd8 (fun k => if j + k < n then ro (a + 9 + (j + k)) else 0) 8) := by
  intro sz
  refine nm_ofW (cc := b_Mo_word) (maxL := 8) (ret := (some .long)) (own := R_Mo) (by decide) (Nat.le_of_ble_eq_true rfl) rfl ?_
  intro p e s m below meth c ls F hr hlk hnm hv hl
  obtain ⟨hx, hb, hml, hown, hts⟩ := id F
  obtain ⟨rfl, hP, hK, hI⟩ := hv
  have hD : nd (na PM ad s.heap.size) PM ad := nd_self hI
  have hA : ∀ q, s.heap.size ≤ q → na PM ad s.heap.size q := fun q h => Or.inr h
  have hS : va_S (na PM ad s.heap.size) s.heap s.heap [] := va_S.rf
  have hl : lv_has ls 8 [(0, .ref (ad 0)), (1, .int (nI i)), (2, .int (nI j))] := hl
  refine lv_aload_n hx hb d_Mo_word_0 rfl (lv_at hl 0 rfl) ?_
  refine lv_iconst (v := nI 0) hx hb d_Mo_word_1 (by decide) ?_
  refine nw_put (D := D) (ci := 5) (C := R_Mo) (T := T_Mo) (N := 16) hx hb hts in_Mo ty_Mo tk_Mo nm_Mo hown hK.k hP hD hS (i := 0) (by decide) md_0 rfl 0 (by decide) (hts _ kf_Mo_38) rfl rfl rfl (Nat.le_of_ble_eq_true rfl) d_Mo_word_2 (fun H locs hP hS hz hq => ?_)
  have hP : nw D vcl PM ad (mdC cy ad 0 false tp tn w cp cb we be lg co fi bn op ro fo) H := nw_congr hP (mdu_fl)
  refine lv_aload_n hx hb d_Mo_word_5 rfl (lv_at hl 0 rfl) ?_
  refine nw_get (D := D) (ci := 5) (C := R_Mo) (T := T_Mo) (N := 16) hx hb hts in_Mo hown hK.k hP (i := 0) (by decide) md_0 rfl 1 (by decide) (hts _ kf_Mo_41) rfl d_Mo_word_6 ?_
  refine lv_if_eq (tgt := 19) hx hb d_Mo_word_9 (by decide) (fun c9 => ?_) (fun c9 => absurd (show bI false = 0 by decide) c9)
  refine lv_aload_n hx hb d_Mo_word_19 rfl (lv_at hl 0 rfl) ?_
  refine lv_iload_n hx hb d_Mo_word_20 rfl (lv_at hl 1 rfl) ?_
  refine call_I (As := [.int (nI i)]) (rest := []) F hK (c_Mo_recordAt1 l D cy ad 0 tn cp cb bn fo false w tp we be co fi ro lg op i hi31 r ln hln hrow HB HQ HO HP t0 q0 hf) km_Mo_91 ki_Mo_recordAt ks_Mo_recordAt k0_Mo kc_Mo_recordAt kd_Mo_recordAt ⟨Nat.le_of_ble_eq_true rfl, Nat.le_of_ble_eq_true rfl⟩ (nw_recv hK.k hP (i := 0) (by decide) md_0 rfl) (hP) (hI) hl.1 rfl (Nat.le_of_ble_eq_true rfl) d_Mo_word_21 ⟨(Nat.le_of_ble_eq_true rfl), (Nat.le_of_ble_eq_true rfl)⟩ hS (na_le hS) (fun H1 locs1 hP1 hk1 hS => ?_)
  have hP : nw D vcl PM ad (mdC cy ad 0 false tp tn w cp cb we be lg co fi bn op ro t0) H1 := hP1
  generalize H1 = H at hP hS ⊢
  rw [ha]
  refine lv_istore_n (lv' := [(3, .int (nI a)), (0, .ref (ad 0)), (1, .int (nI i)), (2, .int (nI j))]) hx hb d_Mo_word_24 rfl hl (by decide) rfl (fun ls hl => ?_)
  refine lv_iload_n hx hb d_Mo_word_25 rfl (lv_at hl 0 rfl) ?_
  refine lv_if_ge (tgt := 36) hx hb d_Mo_word_26 (by decide) (fun c26 => ?_) (fun c26 => absurd (nI_pos' (by omega)) c26)
  refine lv_aload_n hx hb d_Mo_word_36 rfl (lv_at hl 1 rfl) ?_
  refine lv_iload_n hx hb d_Mo_word_37 rfl (lv_at hl 0 rfl) ?_
  refine call_R (As := [.int (nI a)]) (rest := []) F hK (c_Mo_sizeAt l D cy ad 0 tn cp cb bn t0 false w tp we be co fi ro lg op a (by omega) HO) km_Mo_88 ki_Mo_sizeAt ks_Mo_sizeAt k0_Mo kc_Mo_sizeAt kd_Mo_sizeAt ⟨Nat.le_of_ble_eq_true rfl, Nat.le_of_ble_eq_true rfl⟩ (nw_recv hK.k hP (i := 0) (by decide) md_0 rfl) (hP) (hI) hl.1 rfl (Nat.le_of_ble_eq_true rfl) d_Mo_word_38 ⟨(Nat.le_of_ble_eq_true rfl), (Nat.le_of_ble_eq_true rfl)⟩ hS (fun H1 locs1 hN hS => ?_)
  have hP := hN _ _ _ hP
  generalize H1 = H at hP hS ⊢
  rw [hn]
  refine lv_istore (lv' := [(4, .int (nI n)), (3, .int (nI a)), (0, .ref (ad 0)), (1, .int (nI i)), (2, .int (nI j))]) hx hb d_Mo_word_41 hl (by decide) rfl (fun ls hl => ?_)
  refine lv_iload_n hx hb d_Mo_word_43 rfl (lv_at hl 4 rfl) ?_
  refine lv_if_lt (tgt := 53) hx hb d_Mo_word_44 (by decide) (fun c44 => absurd c44 (nI_pos (by omega))) (fun c44 => ?_)
  refine lv_iload_n hx hb d_Mo_word_47 rfl (lv_at hl 4 rfl) ?_
  refine lv_iload hx hb d_Mo_word_48 (lv_at hl 0 rfl) ?_
  refine lv_icmp_lt (tgt := 60) hx hb d_Mo_word_50 (by decide) (fun c50 => ?_) (fun c50 => absurd ((nI_ltI (by omega) (by omega)).mpr (by omega)) c50)
  refine lv_lconst (v := 0) hx hb d_Mo_word_60 (by decide) ?_
  refine lv_lstore (lv' := [(5, .long (0)), (4, .int (nI n)), (3, .int (nI a)), (0, .ref (ad 0)), (1, .int (nI i)), (2, .int (nI j))]) hx hb d_Mo_word_61 hl (by decide) rfl (fun ls hl => ?_)
  refine lv_iload_n hx hb d_Mo_word_63 rfl (lv_at hl 5 rfl) ?_
  refine lv_istore (lv' := [(7, .int (nI j)), (5, .long (0)), (4, .int (nI n)), (3, .int (nI a)), (0, .ref (ad 0)), (1, .int (nI i)), (2, .int (nI j))]) hx hb d_Mo_word_64 hl (by decide) rfl (fun ls hl => ?_)
  have loop : ∀ (q k : Nat), k + q = 8 → ∀ (H : Heap) (locs : List Loc) (ls : Array Slot), nw D vcl PM ad (mdC cy ad 0 false tp tn w cp cb we be lg co fi bn op ro t0) H → va_S (na PM ad s.heap.size) s.heap H locs → lv_has ls 8 [(7, .int (nI (j + k))), (5, .long (wd8 (fun k => if j + k < n then ro (a + 9 + (j + k)) else 0) k)), (4, .int (nI n)), (3, .int (nI a)), (0, .ref (ad 0)), (1, .int (nI i)), (2, .int (nI j))] → W p l e RM s m [.ref (ad 0), .int (nI i), .int (nI j)].toArray below meth c H locs 0 0 (MQ below (va_Ql (fun r' (_ : Unit) => r' = wd8 (fun k => if j + k < n then ro (a + 9 + (j + k)) else 0) 8) (fun _ t => nw D vcl PM ad (mdC cy ad 0 false tp tn w cp cb we be lg co fi bn op ro t0) t.heap) (na PM ad s.heap.size)) [.ref (ad 0), .int (nI i), .int (nI j)].toArray s 0 0 (na PM ad s.heap.size)) (F0 m 66 ls []) := by
    intro q
    induction q with
    | zero =>
      intro k hk H locs ls hP hS hl
      obtain rfl : k = 8 := by omega
      refine lv_iload hx hb d_Mo_word_66 (lv_at hl 0 rfl) ?_
      refine lv_iload_n hx hb d_Mo_word_68 rfl (lv_at hl 6 rfl) ?_
      refine lv_bipush (v := nI 8) hx hb d_Mo_word_69 (by decide) ?_
      refine lv_iadd hx hb d_Mo_word_71 ?_
      refine lv_eqi (nI_add _ _) ?_
      refine lv_icmp_ge (tgt := 118) hx hb d_Mo_word_72 (by decide) (fun c72 => ?_) (fun c72 => absurd ((nI_leI (by omega) (by omega)).mpr (by omega)) c72)
      refine lv_lload hx hb d_Mo_word_118 (lv_at hl 1 rfl) ?_
      exact end_L F hr hlk hP hS d_Mo_word_120
    | succ q ih =>
      intro k hk H locs ls hP hS hl
      refine lv_iload hx hb d_Mo_word_66 (lv_at hl 0 rfl) ?_
      refine lv_iload_n hx hb d_Mo_word_68 rfl (lv_at hl 6 rfl) ?_
      refine lv_bipush (v := nI 8) hx hb d_Mo_word_69 (by decide) ?_
      refine lv_iadd hx hb d_Mo_word_71 ?_
      refine lv_eqi (nI_add _ _) ?_
      refine lv_icmp_ge (tgt := 118) hx hb d_Mo_word_72 (by decide) (fun c72 => absurd c72 (fun z => absurd ((nI_leI (by omega) (by omega)).mp z) (by omega))) (fun c72 => ?_)
      refine lv_lload hx hb d_Mo_word_75 (lv_at hl 1 rfl) ?_
      refine lv_ldc2 hx hb hown (hts _ k_c256) d_Mo_word_77 ?_
      refine lv_lmul hx hb d_Mo_word_80 ?_
      refine lv_iload hx hb d_Mo_word_81 (lv_at hl 0 rfl) ?_
      refine lv_iload hx hb d_Mo_word_83 (lv_at hl 2 rfl) ?_
      refine lv_icmp_ge (tgt := 107) hx hb d_Mo_word_85 (by decide) (fun c85 => ?_) (fun c85 => ?_)
      · have c85 := (nI_leI (by omega) (by omega)).mp c85
        refine lv_iconst (v := nI 0) hx hb d_Mo_word_107 (by decide) ?_
        refine lv_i2l hx hb d_Mo_word_108 rfl ?_
        refine lv_ladd hx hb d_Mo_word_109 ?_
        refine lv_eql (y := wd8 (fun k => if j + k < n then ro (a + 9 + (j + k)) else 0) (k + 1)) (by rw [nI_l6 (by omega)]; simp only [wd8, if_neg (show ¬ j + k < n by omega)]) ?_
        refine lv_lstore (lv' := [(5, .long (wd8 (fun k => if j + k < n then ro (a + 9 + (j + k)) else 0) (k + 1))), (7, .int (nI (j + k))), (4, .int (nI n)), (3, .int (nI a)), (0, .ref (ad 0)), (1, .int (nI i)), (2, .int (nI j))]) hx hb d_Mo_word_110 hl (by decide) rfl (fun ls hl => ?_)
        refine lv_iinc (v := nI (j + k + 1)) (lv' := [(7, .int (nI (j + k + 1))), (5, .long (wd8 (fun k => if j + k < n then ro (a + 9 + (j + k)) else 0) (k + 1))), (4, .int (nI n)), (3, .int (nI a)), (0, .ref (ad 0)), (1, .int (nI i)), (2, .int (nI j))]) hx hb d_Mo_word_112 hl (k := 1) rfl (nI_inc _) (by decide) rfl (fun ls hl => ?_)
        refine lv_goto (tgt := 66) hx hb d_Mo_word_115 (by decide) ?_
        exact ih (k + 1) (by omega) _ _ _ hP hS (lv_sub hl [0, 1, 2, 3, 4, 5, 6] rfl)
      · have c85 := mt (nI_leI (by omega) (by omega)).mpr c85
        refine lv_aload_n hx hb d_Mo_word_88 rfl (lv_at hl 4 rfl) ?_
        refine nw_get (D := D) (ci := 5) (C := R_Mo) (T := T_Mo) (N := 16) hx hb hts in_Mo hown hK.k hP (i := 0) (by decide) md_0 rfl 14 (by decide) (hts _ kf_Mo_35) rfl d_Mo_word_89 ?_
        refine lv_iload_n hx hb d_Mo_word_92 rfl (lv_at hl 3 rfl) ?_
        refine lv_bipush (v := nI 9) hx hb d_Mo_word_93 (by decide) ?_
        refine lv_iadd hx hb d_Mo_word_95 ?_
        refine lv_eqi (nI_add _ _) ?_
        refine lv_iload hx hb d_Mo_word_96 (lv_at hl 0 rfl) ?_
        refine lv_iadd hx hb d_Mo_word_98 ?_
        refine lv_eqi (nI_add _ _) ?_
        refine nw_bald hx hb hK.k hP (i := 7) (by decide) md_7 0 rfl (vp_in_nI (by omega) (by omega)) d_Mo_word_99 ?_
        refine lv_eqi (y := sb_b (ro (a + 9 + (j + k)))) (by rw [nI_clamp (by omega)]) ?_
        refine lv_sipush (v := nI 255) hx hb d_Mo_word_100 (by decide) ?_
        refine lv_iand hx hb d_Mo_word_103 ?_
        refine lv_eqi (y := nI (ro (a + 9 + (j + k)))) (sb_and (HO _ (by omega))) ?_
        refine lv_goto (tgt := 108) hx hb d_Mo_word_104 (by decide) ?_
        refine lv_i2l hx hb d_Mo_word_108 rfl ?_
        refine lv_ladd hx hb d_Mo_word_109 ?_
        refine lv_eql (y := wd8 (fun k => if j + k < n then ro (a + 9 + (j + k)) else 0) (k + 1)) (by rw [nI_l6 (HO (a + 9 + (j + k)) (by omega))]; simp only [wd8, if_pos (show j + k < n by omega)]) ?_
        refine lv_lstore (lv' := [(5, .long (wd8 (fun k => if j + k < n then ro (a + 9 + (j + k)) else 0) (k + 1))), (7, .int (nI (j + k))), (4, .int (nI n)), (3, .int (nI a)), (0, .ref (ad 0)), (1, .int (nI i)), (2, .int (nI j))]) hx hb d_Mo_word_110 hl (by decide) rfl (fun ls hl => ?_)
        refine lv_iinc (v := nI (j + k + 1)) (lv' := [(7, .int (nI (j + k + 1))), (5, .long (wd8 (fun k => if j + k < n then ro (a + 9 + (j + k)) else 0) (k + 1))), (4, .int (nI n)), (3, .int (nI a)), (0, .ref (ad 0)), (1, .int (nI i)), (2, .int (nI j))]) hx hb d_Mo_word_112 hl (k := 1) rfl (nI_inc _) (by decide) rfl (fun ls hl => ?_)
        refine lv_goto (tgt := 66) hx hb d_Mo_word_115 (by decide) ?_
        exact ih (k + 1) (by omega) _ _ _ hP hS (lv_sub hl [0, 1, 2, 3, 4, 5, 6] rfl)
  exact loop 8 0 (by omega) _ _ _ hP hS (lv_sub hl [0, 1, 2, 3, 4, 5, 6] rfl)

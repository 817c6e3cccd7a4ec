/-! TornLogModel: append, on -/
set_option maxRecDepth 100000 in
set_option maxHeartbeats 4000000 in
theorem c_Mo_append5 (l : Launch) (D : va_G) (cy : Nat → ClassId) (ad : Nat → Nat) (fl tn cp cb bn fo : Nat) (dn w : Bool) (tp we be co fi ro : Nat → Nat) (lg : Nat → Bool) (op : Option Nat) (kd mo k : Nat) (hkd1 : 1 ≤ kd) (hkd2 : kd ≤ 15) (hmo : mo < 2 ^ 31) (hk : k ≤ 45) (hkt : k ≤ tn) (htk : tn ≤ k + 1000) (b : Nat) (hb24 : b < 24) (HQ : ∀ b, b < 24 → fi b ≤ 2040 ∧ co b < 2 ^ 16) (hroom : fi b + 9 + tn ≤ 2040) (hcp : cp < 2 ^ 31) (hcb : cb < 2 ^ 31) (hdn : cutF w cp = true) : mtI l y_Mo_append b_Mo_append 8 (some .int) RM D cy [.ref (ad 0), .int (nI kd), .int (nI mo), .int (nI k)] PM ad (mdC cy ad fl false tp tn w cp cb we be lg co fi bn (some b) ro fo) (mdC cy ad 2 true tp 0 (cutW w cp) (cutP w cp) cb we be lg co fi bn (some b) ro fo) (nI 0) := by
  intro sz
  refine nm_ofW (cc := b_Mo_append) (maxL := 8) (ret := (some .int)) (own := R_Mo) (by decide) (Nat.le_of_ble_eq_true rfl) rfl ?_
  intro p e s m below meth c ls F hr hlk hnm hv hl
  obtain ⟨hx, hb, hml, hown, hts⟩ := id F
  obtain ⟨rfl, hP, hK, hI⟩ := hv
  have hD : nd (na PM ad s.heap.size) PM ad := nd_self hI
  have hA : ∀ q, s.heap.size ≤ q → na PM ad s.heap.size q := fun q h => Or.inr h
  have hS : va_S (na PM ad s.heap.size) s.heap s.heap [] := va_S.rf
  have hl : lv_has ls 8 [(0, .ref (ad 0)), (1, .int (nI kd)), (2, .int (nI mo)), (3, .int (nI k))] := hl
  have hq0 := HQ b hb24
  refine lv_aload_n hx hb d_Mo_append_0 rfl (lv_at hl 0 rfl) ?_
  refine lv_iconst (v := nI 0) hx hb d_Mo_append_1 (by decide) ?_
  refine nw_put (D := D) (ci := 5) (C := R_Mo) (T := T_Mo) (N := 16) hx hb hts in_Mo ty_Mo tk_Mo nm_Mo hown hK.k hP hD hS (i := 0) (by decide) md_0 rfl 0 (by decide) (hts _ kf_Mo_38) rfl rfl rfl (Nat.le_of_ble_eq_true rfl) d_Mo_append_2 (fun H locs hP hS hz hq => ?_)
  have hP : nw D vcl PM ad (mdC cy ad 0 false tp tn w cp cb we be lg co fi bn (some b) ro fo) H := nw_congr hP (mdu_fl)
  refine lv_iload_n hx hb d_Mo_append_5 rfl (lv_at hl 1 rfl) ?_
  refine lv_iconst (v := nI 1) hx hb d_Mo_append_6 (by decide) ?_
  refine lv_icmp_lt (tgt := 50) hx hb d_Mo_append_7 (by decide) (fun c7 => absurd c7 (fun z => absurd ((nI_ltI (by omega) (by omega)).mp z) (by omega))) (fun c7 => ?_)
  refine lv_iload_n hx hb d_Mo_append_10 rfl (lv_at hl 1 rfl) ?_
  refine lv_bipush (v := nI 15) hx hb d_Mo_append_11 (by decide) ?_
  refine lv_icmp_gt (tgt := 50) hx hb d_Mo_append_13 (by decide) (fun c13 => absurd c13 (fun z => absurd ((nI_ltI (by omega) (by omega)).mp z) (by omega))) (fun c13 => ?_)
  refine lv_iload_n hx hb d_Mo_append_16 rfl (lv_at hl 2 rfl) ?_
  refine lv_if_lt (tgt := 50) hx hb d_Mo_append_17 (by decide) (fun c17 => absurd c17 (nI_pos (by omega))) (fun c17 => ?_)
  refine lv_iload_n hx hb d_Mo_append_20 rfl (lv_at hl 3 rfl) ?_
  refine lv_if_lt (tgt := 50) hx hb d_Mo_append_21 (by decide) (fun c21 => absurd c21 (nI_pos (by omega))) (fun c21 => ?_)
  refine lv_iload_n hx hb d_Mo_append_24 rfl (lv_at hl 3 rfl) ?_
  refine lv_bipush (v := nI 45) hx hb d_Mo_append_25 (by decide) ?_
  refine lv_icmp_gt (tgt := 50) hx hb d_Mo_append_27 (by decide) (fun c27 => absurd c27 (fun z => absurd ((nI_ltI (by omega) (by omega)).mp z) (by omega))) (fun c27 => ?_)
  refine lv_aload_n hx hb d_Mo_append_30 rfl (lv_at hl 0 rfl) ?_
  refine nw_get (D := D) (ci := 5) (C := R_Mo) (T := T_Mo) (N := 16) hx hb hts in_Mo hown hK.k hP (i := 0) (by decide) md_0 rfl 3 (by decide) (hts _ kf_Mo_49) rfl d_Mo_append_31 ?_
  refine lv_iload_n hx hb d_Mo_append_34 rfl (lv_at hl 3 rfl) ?_
  refine lv_icmp_lt (tgt := 50) hx hb d_Mo_append_35 (by decide) (fun c35 => absurd c35 (fun z => absurd ((nI_ltI (by omega) (by omega)).mp z) (by omega))) (fun c35 => ?_)
  refine lv_aload_n hx hb d_Mo_append_38 rfl (lv_at hl 0 rfl) ?_
  refine nw_get (D := D) (ci := 5) (C := R_Mo) (T := T_Mo) (N := 16) hx hb hts in_Mo hown hK.k hP (i := 0) (by decide) md_0 rfl 3 (by decide) (hts _ kf_Mo_49) rfl d_Mo_append_39 ?_
  refine lv_iload_n hx hb d_Mo_append_42 rfl (lv_at hl 3 rfl) ?_
  refine lv_isub hx hb d_Mo_append_43 ?_
  refine lv_eqi (pk_sub (by omega)) ?_
  refine lv_sipush (v := nI 1000) hx hb d_Mo_append_44 (by decide) ?_
  refine lv_icmp_le (tgt := 56) hx hb d_Mo_append_47 (by decide) (fun c47 => ?_) (fun c47 => absurd ((nI_leI (by omega) (by omega)).mpr (by omega)) c47)
  refine lv_aload_n hx hb d_Mo_append_56 rfl (lv_at hl 0 rfl) ?_
  refine nw_get (D := D) (ci := 5) (C := R_Mo) (T := T_Mo) (N := 16) hx hb hts in_Mo hown hK.k hP (i := 0) (by decide) md_0 rfl 1 (by decide) (hts _ kf_Mo_41) rfl d_Mo_append_57 ?_
  refine lv_if_eq (tgt := 69) hx hb d_Mo_append_60 (by decide) (fun c60 => ?_) (fun c60 => absurd (show bI false = 0 by decide) c60)
  refine lv_aload_n hx hb d_Mo_append_69 rfl (lv_at hl 0 rfl) ?_
  refine nw_get (D := D) (ci := 5) (C := R_Mo) (T := T_Mo) (N := 16) hx hb hts in_Mo hown hK.k hP (i := 0) (by decide) md_0 rfl 3 (by decide) (hts _ kf_Mo_49) rfl d_Mo_append_70 ?_
  refine lv_istore (lv' := [(4, .int (nI tn)), (0, .ref (ad 0)), (1, .int (nI kd)), (2, .int (nI mo)), (3, .int (nI k))]) hx hb d_Mo_append_73 hl (by decide) rfl (fun ls hl => ?_)
  refine lv_aload_n hx hb d_Mo_append_75 rfl (lv_at hl 1 rfl) ?_
  refine lv_iconst (v := nI 0) hx hb d_Mo_append_76 (by decide) ?_
  refine nw_put (D := D) (ci := 5) (C := R_Mo) (T := T_Mo) (N := 16) hx hb hts in_Mo ty_Mo tk_Mo nm_Mo hown hK.k hP hD hS (i := 0) (by decide) md_0 rfl 3 (by decide) (hts _ kf_Mo_49) rfl rfl rfl (Nat.le_of_ble_eq_true rfl) d_Mo_append_77 (fun H locs hP hS hz hq => ?_)
  have hP : nw D vcl PM ad (mdC cy ad 0 false tp 0 w cp cb we be lg co fi bn (some b) ro fo) H := nw_congr hP (mdu_tn)
  refine lv_aload_n hx hb d_Mo_append_80 rfl (lv_at hl 1 rfl) ?_
  refine nw_get (D := D) (ci := 5) (C := R_Mo) (T := T_Mo) (N := 16) hx hb hts in_Mo hown hK.k hP (i := 0) (by decide) md_0 rfl 13 (by decide) (hts _ kf_Mo_30) rfl d_Mo_append_81 ?_
  refine lv_eqi (y := nI b) rfl ?_
  refine lv_if_lt (tgt := 112) hx hb d_Mo_append_84 (by decide) (fun c84 => absurd c84 (nI_pos (by omega))) (fun c84 => ?_)
  refine lv_aload_n hx hb d_Mo_append_87 rfl (lv_at hl 1 rfl) ?_
  refine nw_get (D := D) (ci := 5) (C := R_Mo) (T := T_Mo) (N := 16) hx hb hts in_Mo hown hK.k hP (i := 0) (by decide) md_0 rfl 11 (by decide) (hts _ kf_Mo_27) rfl d_Mo_append_88 ?_
  refine lv_aload_n hx hb d_Mo_append_91 rfl (lv_at hl 1 rfl) ?_
  refine nw_get (D := D) (ci := 5) (C := R_Mo) (T := T_Mo) (N := 16) hx hb hts in_Mo hown hK.k hP (i := 0) (by decide) md_0 rfl 13 (by decide) (hts _ kf_Mo_30) rfl d_Mo_append_92 ?_
  refine lv_eqi (y := nI b) rfl ?_
  refine nw_iald hx hb hK.k hP (i := 6) (by decide) md_6 1 rfl (vp_in_nI (by omega) (by omega)) d_Mo_append_95 ?_
  refine lv_eqi (y := nI (fi b)) (by rw [nI_clamp (by omega)]) ?_
  refine lv_bipush (v := nI 9) hx hb d_Mo_append_96 (by decide) ?_
  refine lv_iadd hx hb d_Mo_append_98 ?_
  refine lv_eqi (nI_add _ _) ?_
  refine lv_iload hx hb d_Mo_append_99 (lv_at hl 0 rfl) ?_
  refine lv_iadd hx hb d_Mo_append_101 ?_
  refine lv_eqi (nI_add _ _) ?_
  refine lv_sipush (v := nI 2040) hx hb d_Mo_append_102 (by decide) ?_
  refine lv_icmp_gt (tgt := 112) hx hb d_Mo_append_105 (by decide) (fun c105 => absurd c105 (fun z => absurd ((nI_ltI (by omega) (by omega)).mp z) (by omega))) (fun c105 => ?_)
  refine lv_iconst (v := nI 1) hx hb d_Mo_append_108 (by decide) ?_
  refine lv_goto (tgt := 113) hx hb d_Mo_append_109 (by decide) ?_
  refine lv_istore (lv' := [(5, .int (nI 1)), (4, .int (nI tn)), (0, .ref (ad 0)), (1, .int (nI kd)), (2, .int (nI mo)), (3, .int (nI k))]) hx hb d_Mo_append_113 hl (by decide) rfl (fun ls hl => ?_)
  refine lv_iload hx hb d_Mo_append_115 (lv_at hl 0 rfl) ?_
  refine lv_if_ne (tgt := 135) hx hb d_Mo_append_117 (by decide) (fun c117 => ?_) (fun c117 => absurd c117 (by decide))
  refine lv_iload hx hb d_Mo_append_135 (lv_at hl 0 rfl) ?_
  refine lv_if_ne (tgt := 153) hx hb d_Mo_append_137 (by decide) (fun c137 => ?_) (fun c137 => absurd c137 (by decide))
  refine lv_aload_n hx hb d_Mo_append_153 rfl (lv_at hl 2 rfl) ?_
  refine lv_bipush (v := nI 9) hx hb d_Mo_append_154 (by decide) ?_
  refine lv_iload hx hb d_Mo_append_156 (lv_at hl 1 rfl) ?_
  refine lv_iadd hx hb d_Mo_append_158 ?_
  refine lv_eqi (nI_add _ _) ?_
  refine call_I (As := [.int (nI (9 + tn))]) (rest := []) F hK (c_Mo_partF l D cy ad 0 0 cp cb bn fo false w tp we be co fi ro lg (some b) (9 + tn) (by omega) (by omega) hcb hcp hdn) km_Mo_61 ki_Mo_part ks_Mo_part k0_Mo kc_Mo_part kd_Mo_part ⟨Nat.le_of_ble_eq_true rfl, Nat.le_of_ble_eq_true rfl⟩ (nw_recv hK.k hP (i := 0) (by decide) md_0 rfl) (hP) (hI) hl.1 rfl (Nat.le_of_ble_eq_true rfl) d_Mo_append_159 ⟨(Nat.le_of_ble_eq_true rfl), (Nat.le_of_ble_eq_true rfl)⟩ hS (na_le hS) (fun H1 locs1 hP1 hk1 hS => ?_)
  have hP : nw D vcl PM ad (mdC cy ad 0 true tp 0 (cutW w cp) (cutP w cp) cb we be lg co fi bn (some b) ro fo) H1 := hP1
  generalize H1 = H at hP hS ⊢
  refine lv_bipush (v := nI 9) hx hb d_Mo_append_162 (by decide) ?_
  refine lv_iload hx hb d_Mo_append_164 (lv_at hl 1 rfl) ?_
  refine lv_iadd hx hb d_Mo_append_166 ?_
  refine lv_eqi (nI_add _ _) ?_
  refine lv_icmp_ge (tgt := 176) hx hb d_Mo_append_167 (by decide) (fun c167 => absurd c167 (fun z => absurd ((nI_leI (by omega) (by omega)).mp z) (by omega))) (fun c167 => ?_)
  refine lv_aload_n hx hb d_Mo_append_170 rfl (lv_at hl 2 rfl) ?_
  refine lv_iconst (v := nI 2) hx hb d_Mo_append_171 (by decide) ?_
  refine call_I (As := [.int (nI 2)]) (rest := []) F hK (c_Mo_fail l D cy ad 0 0 (cutP w cp) cb bn fo true (cutW w cp) tp we be co fi ro lg (some b) 2) km_Mo_45 ki_Mo_fail ks_Mo_fail k0_Mo kc_Mo_fail kd_Mo_fail ⟨Nat.le_of_ble_eq_true rfl, Nat.le_of_ble_eq_true rfl⟩ (nw_recv hK.k hP (i := 0) (by decide) md_0 rfl) (hP) (hI) hl.1 rfl (Nat.le_of_ble_eq_true rfl) d_Mo_append_172 ⟨(Nat.le_of_ble_eq_true rfl), (Nat.le_of_ble_eq_true rfl)⟩ hS (na_le hS) (fun H1 locs1 hP1 hk1 hS => ?_)
  have hP : nw D vcl PM ad (mdC cy ad 2 true tp 0 (cutW w cp) (cutP w cp) cb we be lg co fi bn (some b) ro fo) H1 := hP1
  generalize H1 = H at hP hS ⊢
  exact end_I F hr hlk rfl hP hS d_Mo_append_175
set_option maxRecDepth 100000 in
set_option maxHeartbeats 4000000 in
theorem c_Mo_append6 (l : Launch) (D : va_G) (cy : Nat → ClassId) (ad : Nat → Nat) (fl tn cp cb bn fo : Nat) (dn w : Bool) (tp we be co fi ro : Nat → Nat) (lg : Nat → Bool) (op : Option Nat) (kd mo k : Nat) (hkd1 : 1 ≤ kd) (hkd2 : kd ≤ 15) (hmo : mo < 2 ^ 31) (hk : k ≤ 45) (hkt : k ≤ tn) (htk : tn ≤ k + 1000) (b : Nat) (hb24 : b < 24) (HQ : ∀ b, b < 24 → fi b ≤ 2040 ∧ co b < 2 ^ 16) (hroom : fi b + 9 + tn ≤ 2040) (hcp : cp < 2 ^ 31) (hcb : cb < 2 ^ 31) (a : Nat) (ha : 2040 * b + fi b = a) (hdn : cutF w cp = false) : mtI l y_Mo_append b_Mo_append 8 (some .int) RM D cy [.ref (ad 0), .int (nI kd), .int (nI mo), .int (nI k)] PM ad (mdC cy ad fl false tp tn w cp cb we be lg co fi bn (some b) ro fo) (mdC cy ad 0 false tp 0 (cutW w cp) (cutP w cp) cb we be lg (va_up co b (co b + 1)) (va_up fi b (fi b + (9 + tn))) bn (some b) (mRB ro a kd mo k tn tp) fo) (nI (co b + 1)) := by
  intro sz
  refine nm_ofW (cc := b_Mo_append) (maxL := 8) (ret := (some .int)) (own := R_Mo) (by decide) (Nat.le_of_ble_eq_true rfl) rfl ?_
  intro p e s m below meth c ls F hr hlk hnm hv hl
  obtain ⟨hx, hb, hml, hown, hts⟩ := id F
  obtain ⟨rfl, hP, hK, hI⟩ := hv
  have hD : nd (na PM ad s.heap.size) PM ad := nd_self hI
  have hA : ∀ q, s.heap.size ≤ q → na PM ad s.heap.size q := fun q h => Or.inr h
  have hS : va_S (na PM ad s.heap.size) s.heap s.heap [] := va_S.rf
  have hl : lv_has ls 8 [(0, .ref (ad 0)), (1, .int (nI kd)), (2, .int (nI mo)), (3, .int (nI k))] := hl
  have hq0 := HQ b hb24
  refine lv_aload_n hx hb d_Mo_append_0 rfl (lv_at hl 0 rfl) ?_
  refine lv_iconst (v := nI 0) hx hb d_Mo_append_1 (by decide) ?_
  refine nw_put (D := D) (ci := 5) (C := R_Mo) (T := T_Mo) (N := 16) hx hb hts in_Mo ty_Mo tk_Mo nm_Mo hown hK.k hP hD hS (i := 0) (by decide) md_0 rfl 0 (by decide) (hts _ kf_Mo_38) rfl rfl rfl (Nat.le_of_ble_eq_true rfl) d_Mo_append_2 (fun H locs hP hS hz hq => ?_)
  have hP : nw D vcl PM ad (mdC cy ad 0 false tp tn w cp cb we be lg co fi bn (some b) ro fo) H := nw_congr hP (mdu_fl)
  refine lv_iload_n hx hb d_Mo_append_5 rfl (lv_at hl 1 rfl) ?_
  refine lv_iconst (v := nI 1) hx hb d_Mo_append_6 (by decide) ?_
  refine lv_icmp_lt (tgt := 50) hx hb d_Mo_append_7 (by decide) (fun c7 => absurd c7 (fun z => absurd ((nI_ltI (by omega) (by omega)).mp z) (by omega))) (fun c7 => ?_)
  refine lv_iload_n hx hb d_Mo_append_10 rfl (lv_at hl 1 rfl) ?_
  refine lv_bipush (v := nI 15) hx hb d_Mo_append_11 (by decide) ?_
  refine lv_icmp_gt (tgt := 50) hx hb d_Mo_append_13 (by decide) (fun c13 => absurd c13 (fun z => absurd ((nI_ltI (by omega) (by omega)).mp z) (by omega))) (fun c13 => ?_)
  refine lv_iload_n hx hb d_Mo_append_16 rfl (lv_at hl 2 rfl) ?_
  refine lv_if_lt (tgt := 50) hx hb d_Mo_append_17 (by decide) (fun c17 => absurd c17 (nI_pos (by omega))) (fun c17 => ?_)
  refine lv_iload_n hx hb d_Mo_append_20 rfl (lv_at hl 3 rfl) ?_
  refine lv_if_lt (tgt := 50) hx hb d_Mo_append_21 (by decide) (fun c21 => absurd c21 (nI_pos (by omega))) (fun c21 => ?_)
  refine lv_iload_n hx hb d_Mo_append_24 rfl (lv_at hl 3 rfl) ?_
  refine lv_bipush (v := nI 45) hx hb d_Mo_append_25 (by decide) ?_
  refine lv_icmp_gt (tgt := 50) hx hb d_Mo_append_27 (by decide) (fun c27 => absurd c27 (fun z => absurd ((nI_ltI (by omega) (by omega)).mp z) (by omega))) (fun c27 => ?_)
  refine lv_aload_n hx hb d_Mo_append_30 rfl (lv_at hl 0 rfl) ?_
  refine nw_get (D := D) (ci := 5) (C := R_Mo) (T := T_Mo) (N := 16) hx hb hts in_Mo hown hK.k hP (i := 0) (by decide) md_0 rfl 3 (by decide) (hts _ kf_Mo_49) rfl d_Mo_append_31 ?_
  refine lv_iload_n hx hb d_Mo_append_34 rfl (lv_at hl 3 rfl) ?_
  refine lv_icmp_lt (tgt := 50) hx hb d_Mo_append_35 (by decide) (fun c35 => absurd c35 (fun z => absurd ((nI_ltI (by omega) (by omega)).mp z) (by omega))) (fun c35 => ?_)
  refine lv_aload_n hx hb d_Mo_append_38 rfl (lv_at hl 0 rfl) ?_
  refine nw_get (D := D) (ci := 5) (C := R_Mo) (T := T_Mo) (N := 16) hx hb hts in_Mo hown hK.k hP (i := 0) (by decide) md_0 rfl 3 (by decide) (hts _ kf_Mo_49) rfl d_Mo_append_39 ?_
  refine lv_iload_n hx hb d_Mo_append_42 rfl (lv_at hl 3 rfl) ?_
  refine lv_isub hx hb d_Mo_append_43 ?_
  refine lv_eqi (pk_sub (by omega)) ?_
  refine lv_sipush (v := nI 1000) hx hb d_Mo_append_44 (by decide) ?_
  refine lv_icmp_le (tgt := 56) hx hb d_Mo_append_47 (by decide) (fun c47 => ?_) (fun c47 => absurd ((nI_leI (by omega) (by omega)).mpr (by omega)) c47)
  refine lv_aload_n hx hb d_Mo_append_56 rfl (lv_at hl 0 rfl) ?_
  refine nw_get (D := D) (ci := 5) (C := R_Mo) (T := T_Mo) (N := 16) hx hb hts in_Mo hown hK.k hP (i := 0) (by decide) md_0 rfl 1 (by decide) (hts _ kf_Mo_41) rfl d_Mo_append_57 ?_
  refine lv_if_eq (tgt := 69) hx hb d_Mo_append_60 (by decide) (fun c60 => ?_) (fun c60 => absurd (show bI false = 0 by decide) c60)
  refine lv_aload_n hx hb d_Mo_append_69 rfl (lv_at hl 0 rfl) ?_
  refine nw_get (D := D) (ci := 5) (C := R_Mo) (T := T_Mo) (N := 16) hx hb hts in_Mo hown hK.k hP (i := 0) (by decide) md_0 rfl 3 (by decide) (hts _ kf_Mo_49) rfl d_Mo_append_70 ?_
  refine lv_istore (lv' := [(4, .int (nI tn)), (0, .ref (ad 0)), (1, .int (nI kd)), (2, .int (nI mo)), (3, .int (nI k))]) hx hb d_Mo_append_73 hl (by decide) rfl (fun ls hl => ?_)
  refine lv_aload_n hx hb d_Mo_append_75 rfl (lv_at hl 1 rfl) ?_
  refine lv_iconst (v := nI 0) hx hb d_Mo_append_76 (by decide) ?_
  refine nw_put (D := D) (ci := 5) (C := R_Mo) (T := T_Mo) (N := 16) hx hb hts in_Mo ty_Mo tk_Mo nm_Mo hown hK.k hP hD hS (i := 0) (by decide) md_0 rfl 3 (by decide) (hts _ kf_Mo_49) rfl rfl rfl (Nat.le_of_ble_eq_true rfl) d_Mo_append_77 (fun H locs hP hS hz hq => ?_)
  have hP : nw D vcl PM ad (mdC cy ad 0 false tp 0 w cp cb we be lg co fi bn (some b) ro fo) H := nw_congr hP (mdu_tn)
  refine lv_aload_n hx hb d_Mo_append_80 rfl (lv_at hl 1 rfl) ?_
  refine nw_get (D := D) (ci := 5) (C := R_Mo) (T := T_Mo) (N := 16) hx hb hts in_Mo hown hK.k hP (i := 0) (by decide) md_0 rfl 13 (by decide) (hts _ kf_Mo_30) rfl d_Mo_append_81 ?_
  refine lv_eqi (y := nI b) rfl ?_
  refine lv_if_lt (tgt := 112) hx hb d_Mo_append_84 (by decide) (fun c84 => absurd c84 (nI_pos (by omega))) (fun c84 => ?_)
  refine lv_aload_n hx hb d_Mo_append_87 rfl (lv_at hl 1 rfl) ?_
  refine nw_get (D := D) (ci := 5) (C := R_Mo) (T := T_Mo) (N := 16) hx hb hts in_Mo hown hK.k hP (i := 0) (by decide) md_0 rfl 11 (by decide) (hts _ kf_Mo_27) rfl d_Mo_append_88 ?_
  refine lv_aload_n hx hb d_Mo_append_91 rfl (lv_at hl 1 rfl) ?_
  refine nw_get (D := D) (ci := 5) (C := R_Mo) (T := T_Mo) (N := 16) hx hb hts in_Mo hown hK.k hP (i := 0) (by decide) md_0 rfl 13 (by decide) (hts _ kf_Mo_30) rfl d_Mo_append_92 ?_
  refine lv_eqi (y := nI b) rfl ?_
  refine nw_iald hx hb hK.k hP (i := 6) (by decide) md_6 1 rfl (vp_in_nI (by omega) (by omega)) d_Mo_append_95 ?_
  refine lv_eqi (y := nI (fi b)) (by rw [nI_clamp (by omega)]) ?_
  refine lv_bipush (v := nI 9) hx hb d_Mo_append_96 (by decide) ?_
  refine lv_iadd hx hb d_Mo_append_98 ?_
  refine lv_eqi (nI_add _ _) ?_
  refine lv_iload hx hb d_Mo_append_99 (lv_at hl 0 rfl) ?_
  refine lv_iadd hx hb d_Mo_append_101 ?_
  refine lv_eqi (nI_add _ _) ?_
  refine lv_sipush (v := nI 2040) hx hb d_Mo_append_102 (by decide) ?_
  refine lv_icmp_gt (tgt := 112) hx hb d_Mo_append_105 (by decide) (fun c105 => absurd c105 (fun z => absurd ((nI_ltI (by omega) (by omega)).mp z) (by omega))) (fun c105 => ?_)
  refine lv_iconst (v := nI 1) hx hb d_Mo_append_108 (by decide) ?_
  refine lv_goto (tgt := 113) hx hb d_Mo_append_109 (by decide) ?_
  refine lv_istore (lv' := [(5, .int (nI 1)), (4, .int (nI tn)), (0, .ref (ad 0)), (1, .int (nI kd)), (2, .int (nI mo)), (3, .int (nI k))]) hx hb d_Mo_append_113 hl (by decide) rfl (fun ls hl => ?_)
  refine lv_iload hx hb d_Mo_append_115 (lv_at hl 0 rfl) ?_
  refine lv_if_ne (tgt := 135) hx hb d_Mo_append_117 (by decide) (fun c117 => ?_) (fun c117 => absurd c117 (by decide))
  refine lv_iload hx hb d_Mo_append_135 (lv_at hl 0 rfl) ?_
  refine lv_if_ne (tgt := 153) hx hb d_Mo_append_137 (by decide) (fun c137 => ?_) (fun c137 => absurd c137 (by decide))
  refine lv_aload_n hx hb d_Mo_append_153 rfl (lv_at hl 2 rfl) ?_
  refine lv_bipush (v := nI 9) hx hb d_Mo_append_154 (by decide) ?_
  refine lv_iload hx hb d_Mo_append_156 (lv_at hl 1 rfl) ?_
  refine lv_iadd hx hb d_Mo_append_158 ?_
  refine lv_eqi (nI_add _ _) ?_
  refine call_I (As := [.int (nI (9 + tn))]) (rest := []) F hK (c_Mo_partT l D cy ad 0 0 cp cb bn fo false w tp we be co fi ro lg (some b) (9 + tn) (by omega) (by omega) hcb hcp hdn) km_Mo_61 ki_Mo_part ks_Mo_part k0_Mo kc_Mo_part kd_Mo_part ⟨Nat.le_of_ble_eq_true rfl, Nat.le_of_ble_eq_true rfl⟩ (nw_recv hK.k hP (i := 0) (by decide) md_0 rfl) (hP) (hI) hl.1 rfl (Nat.le_of_ble_eq_true rfl) d_Mo_append_159 ⟨(Nat.le_of_ble_eq_true rfl), (Nat.le_of_ble_eq_true rfl)⟩ hS (na_le hS) (fun H1 locs1 hP1 hk1 hS => ?_)
  have hP : nw D vcl PM ad (mdC cy ad 0 false tp 0 (cutW w cp) (cutP w cp) cb we be lg co fi bn (some b) ro fo) H1 := hP1
  generalize H1 = H at hP hS ⊢
  refine lv_bipush (v := nI 9) hx hb d_Mo_append_162 (by decide) ?_
  refine lv_iload hx hb d_Mo_append_164 (lv_at hl 1 rfl) ?_
  refine lv_iadd hx hb d_Mo_append_166 ?_
  refine lv_eqi (nI_add _ _) ?_
  refine lv_icmp_ge (tgt := 176) hx hb d_Mo_append_167 (by decide) (fun c167 => ?_) (fun c167 => absurd ((nI_leI (by omega) (by omega)).mpr (by omega)) c167)
  refine lv_sipush (v := nI 2040) hx hb d_Mo_append_176 (by decide) ?_
  refine lv_aload_n hx hb d_Mo_append_179 rfl (lv_at hl 2 rfl) ?_
  refine nw_get (D := D) (ci := 5) (C := R_Mo) (T := T_Mo) (N := 16) hx hb hts in_Mo hown hK.k hP (i := 0) (by decide) md_0 rfl 13 (by decide) (hts _ kf_Mo_30) rfl d_Mo_append_180 ?_
  refine lv_eqi (y := nI b) rfl ?_
  refine lv_imul hx hb d_Mo_append_183 ?_
  refine lv_eqi (pk_mul _ _) ?_
  refine lv_aload_n hx hb d_Mo_append_184 rfl (lv_at hl 2 rfl) ?_
  refine nw_get (D := D) (ci := 5) (C := R_Mo) (T := T_Mo) (N := 16) hx hb hts in_Mo hown hK.k hP (i := 0) (by decide) md_0 rfl 11 (by decide) (hts _ kf_Mo_27) rfl d_Mo_append_185 ?_
  refine lv_aload_n hx hb d_Mo_append_188 rfl (lv_at hl 2 rfl) ?_
  refine nw_get (D := D) (ci := 5) (C := R_Mo) (T := T_Mo) (N := 16) hx hb hts in_Mo hown hK.k hP (i := 0) (by decide) md_0 rfl 13 (by decide) (hts _ kf_Mo_30) rfl d_Mo_append_189 ?_
  refine lv_eqi (y := nI b) rfl ?_
  refine nw_iald hx hb hK.k hP (i := 6) (by decide) md_6 1 rfl (vp_in_nI (by omega) (by omega)) d_Mo_append_192 ?_
  refine lv_eqi (y := nI (fi b)) (by rw [nI_clamp (by omega)]) ?_
  refine lv_iadd hx hb d_Mo_append_193 ?_
  refine lv_eqi (nI_add _ _) ?_
  rw [ha]
  refine lv_istore (lv' := [(6, .int (nI a)), (5, .int (nI 1)), (4, .int (nI tn)), (0, .ref (ad 0)), (1, .int (nI kd)), (2, .int (nI mo)), (3, .int (nI k))]) hx hb d_Mo_append_194 hl (by decide) rfl (fun ls hl => ?_)
  refine lv_aload_n hx hb d_Mo_append_196 rfl (lv_at hl 3 rfl) ?_
  refine nw_get (D := D) (ci := 5) (C := R_Mo) (T := T_Mo) (N := 16) hx hb hts in_Mo hown hK.k hP (i := 0) (by decide) md_0 rfl 14 (by decide) (hts _ kf_Mo_35) rfl d_Mo_append_197 ?_
  refine lv_iload hx hb d_Mo_append_200 (lv_at hl 0 rfl) ?_
  refine lv_iload_n hx hb d_Mo_append_202 rfl (lv_at hl 4 rfl) ?_
  refine lv_i2b hx hb d_Mo_append_203 rfl ?_
  refine nw_bast hx hb hK.k hP hD hS (i := 7) (by decide) md_7 0 rfl (vp_in_nI (by omega) (by omega)) d_Mo_append_204 (fun H locs hP hS hz hq => ?_)
  rw [nI_clamp (by omega), sb_na, show bof (nI kd) = kd by rw [bof_nI (by omega)]; omega, by_upd] at hP
  have hP : nw D vcl PM ad (mdC cy ad 0 false tp 0 (cutW w cp) (cutP w cp) cb we be lg co fi bn (some b) (va_up ro a kd) fo) H := nw_congr hP (mdu_ro)
  refine lv_aload_n hx hb d_Mo_append_205 rfl (lv_at hl 3 rfl) ?_
  refine nw_get (D := D) (ci := 5) (C := R_Mo) (T := T_Mo) (N := 16) hx hb hts in_Mo hown hK.k hP (i := 0) (by decide) md_0 rfl 14 (by decide) (hts _ kf_Mo_35) rfl d_Mo_append_206 ?_
  refine lv_iload hx hb d_Mo_append_209 (lv_at hl 0 rfl) ?_
  refine lv_iconst (v := nI 1) hx hb d_Mo_append_211 (by decide) ?_
  refine lv_iadd hx hb d_Mo_append_212 ?_
  refine lv_eqi (nI_add _ _) ?_
  refine lv_iload_n hx hb d_Mo_append_213 rfl (lv_at hl 6 rfl) ?_
  refine lv_i2b hx hb d_Mo_append_214 rfl ?_
  refine nw_bast hx hb hK.k hP hD hS (i := 7) (by decide) md_7 0 rfl (vp_in_nI (by omega) (by omega)) d_Mo_append_215 (fun H locs hP hS hz hq => ?_)
  rw [nI_clamp (by omega), sb_na, show bof (nI k) = k by rw [bof_nI (by omega)]; omega, by_upd] at hP
  have hP : nw D vcl PM ad (mdC cy ad 0 false tp 0 (cutW w cp) (cutP w cp) cb we be lg co fi bn (some b) (va_up (va_up ro a kd) (a + 1) k) fo) H := nw_congr hP (mdu_ro)
  refine lv_aload_n hx hb d_Mo_append_216 rfl (lv_at hl 3 rfl) ?_
  refine nw_get (D := D) (ci := 5) (C := R_Mo) (T := T_Mo) (N := 16) hx hb hts in_Mo hown hK.k hP (i := 0) (by decide) md_0 rfl 14 (by decide) (hts _ kf_Mo_35) rfl d_Mo_append_217 ?_
  refine lv_iload hx hb d_Mo_append_220 (lv_at hl 0 rfl) ?_
  refine lv_iconst (v := nI 2) hx hb d_Mo_append_222 (by decide) ?_
  refine lv_iadd hx hb d_Mo_append_223 ?_
  refine lv_eqi (nI_add _ _) ?_
  refine lv_iload hx hb d_Mo_append_224 (lv_at hl 2 rfl) ?_
  refine lv_iload_n hx hb d_Mo_append_226 rfl (lv_at hl 6 rfl) ?_
  refine lv_isub hx hb d_Mo_append_227 ?_
  refine lv_eqi (pk_sub (by omega)) ?_
  refine lv_sipush (v := nI 256) hx hb d_Mo_append_228 (by decide) ?_
  refine lv_idiv hx hb d_Mo_append_231 (by decide) ?_
  refine lv_eqi (pk_div (by omega) (by omega) (by omega)) ?_
  refine lv_i2b hx hb d_Mo_append_232 rfl ?_
  refine nw_bast hx hb hK.k hP hD hS (i := 7) (by decide) md_7 0 rfl (vp_in_nI (by omega) (by omega)) d_Mo_append_233 (fun H locs hP hS hz hq => ?_)
  rw [nI_clamp (by omega), sb_na, show bof (nI ((tn - k) / 256)) = (tn - k) / 256 by rw [bof_nI (by omega)]; omega, by_upd] at hP
  have hP : nw D vcl PM ad (mdC cy ad 0 false tp 0 (cutW w cp) (cutP w cp) cb we be lg co fi bn (some b) (va_up (va_up (va_up ro a kd) (a + 1) k) (a + 2) ((tn - k) / 256)) fo) H := nw_congr hP (mdu_ro)
  refine lv_aload_n hx hb d_Mo_append_234 rfl (lv_at hl 3 rfl) ?_
  refine nw_get (D := D) (ci := 5) (C := R_Mo) (T := T_Mo) (N := 16) hx hb hts in_Mo hown hK.k hP (i := 0) (by decide) md_0 rfl 14 (by decide) (hts _ kf_Mo_35) rfl d_Mo_append_235 ?_
  refine lv_iload hx hb d_Mo_append_238 (lv_at hl 0 rfl) ?_
  refine lv_iconst (v := nI 3) hx hb d_Mo_append_240 (by decide) ?_
  refine lv_iadd hx hb d_Mo_append_241 ?_
  refine lv_eqi (nI_add _ _) ?_
  refine lv_iload hx hb d_Mo_append_242 (lv_at hl 2 rfl) ?_
  refine lv_iload_n hx hb d_Mo_append_244 rfl (lv_at hl 6 rfl) ?_
  refine lv_isub hx hb d_Mo_append_245 ?_
  refine lv_eqi (pk_sub (by omega)) ?_
  refine lv_i2b hx hb d_Mo_append_246 rfl ?_
  refine nw_bast hx hb hK.k hP hD hS (i := 7) (by decide) md_7 0 rfl (vp_in_nI (by omega) (by omega)) d_Mo_append_247 (fun H locs hP hS hz hq => ?_)
  rw [nI_clamp (by omega), sb_na, show bof (nI (tn - k)) = (tn - k) % 256 from bof_nI (by omega), by_upd] at hP
  have hP : nw D vcl PM ad (mdC cy ad 0 false tp 0 (cutW w cp) (cutP w cp) cb we be lg co fi bn (some b) (mRH ro a kd k tn) fo) H := nw_congr hP (mdu_ro)
  refine lv_iconst (v := nI 0) hx hb d_Mo_append_248 (by decide) ?_
  refine lv_istore (lv' := [(7, .int (nI 0)), (6, .int (nI a)), (5, .int (nI 1)), (4, .int (nI tn)), (0, .ref (ad 0)), (1, .int (nI kd)), (2, .int (nI mo)), (3, .int (nI k))]) hx hb d_Mo_append_249 hl (by decide) rfl (fun ls hl => ?_)
  have fin : ∀ (H : Heap) (locs : List Loc) (ls : Array Slot), nw D vcl PM ad (mdC cy ad 0 false tp 0 (cutW w cp) (cutP w cp) cb we be lg co fi bn (some b) (mRB ro a kd mo k tn tp) fo) H → va_S (na PM ad s.heap.size) s.heap H locs → lv_has ls 8 [(6, .int (nI a)), (5, .int (nI 1)), (4, .int (nI tn)), (0, .ref (ad 0)), (1, .int (nI kd)), (2, .int (nI mo)), (3, .int (nI k))] → W p l e RM s m [.ref (ad 0), .int (nI kd), .int (nI mo), .int (nI k)].toArray below meth c H locs 0 0 (MQ below (va_Qi (fun r' (_ : Unit) => r' = nI (co b + 1)) (fun _ t => nw D vcl PM ad (mdC cy ad 0 false tp 0 (cutW w cp) (cutP w cp) cb we be lg (va_up co b (co b + 1)) (va_up fi b (fi b + (9 + tn))) bn (some b) (mRB ro a kd mo k tn tp) fo) t.heap) (na PM ad s.heap.size)) [.ref (ad 0), .int (nI kd), .int (nI mo), .int (nI k)].toArray s 0 0 (na PM ad s.heap.size)) (F0 m 322 ls []) := by
    intro H locs ls hP hS hl
    refine lv_aload_n hx hb d_Mo_append_322 rfl (lv_at hl 3 rfl) ?_
    refine nw_get (D := D) (ci := 5) (C := R_Mo) (T := T_Mo) (N := 16) hx hb hts in_Mo hown hK.k hP (i := 0) (by decide) md_0 rfl 11 (by decide) (hts _ kf_Mo_27) rfl d_Mo_append_323 ?_
    refine lv_aload_n hx hb d_Mo_append_326 rfl (lv_at hl 3 rfl) ?_
    refine nw_get (D := D) (ci := 5) (C := R_Mo) (T := T_Mo) (N := 16) hx hb hts in_Mo hown hK.k hP (i := 0) (by decide) md_0 rfl 13 (by decide) (hts _ kf_Mo_30) rfl d_Mo_append_327 ?_
    refine lv_eqi (y := nI b) rfl ?_
    refine lv_dup2_11 hx hb d_Mo_append_330 rfl rfl ?_
    refine nw_iald hx hb hK.k hP (i := 6) (by decide) md_6 1 rfl (vp_in_nI (by omega) (by omega)) d_Mo_append_331 ?_
    refine lv_eqi (y := nI (fi b)) (by rw [nI_clamp (by omega)]) ?_
    refine lv_bipush (v := nI 9) hx hb d_Mo_append_332 (by decide) ?_
    refine lv_iload hx hb d_Mo_append_334 (lv_at hl 2 rfl) ?_
    refine lv_iadd hx hb d_Mo_append_336 ?_
    refine lv_eqi (nI_add _ _) ?_
    refine lv_iadd hx hb d_Mo_append_337 ?_
    refine lv_eqi (nI_add _ _) ?_
    refine nw_iast hx hb hK.k hP hD hS (i := 6) (by decide) md_6 1 rfl (vp_in_nI (by omega) (by omega)) d_Mo_append_338 (fun H locs hP hS hz hq => ?_)
    rw [nI_clamp (by omega), in_upd] at hP
    have hP : nw D vcl PM ad (mdC cy ad 0 false tp 0 (cutW w cp) (cutP w cp) cb we be lg co (va_up fi b (fi b + (9 + tn))) bn (some b) (mRB ro a kd mo k tn tp) fo) H := nw_congr hP (mdu_fi)
    refine lv_aload_n hx hb d_Mo_append_339 rfl (lv_at hl 3 rfl) ?_
    refine nw_get (D := D) (ci := 5) (C := R_Mo) (T := T_Mo) (N := 16) hx hb hts in_Mo hown hK.k hP (i := 0) (by decide) md_0 rfl 10 (by decide) (hts _ kf_Mo_24) rfl d_Mo_append_340 ?_
    refine lv_aload_n hx hb d_Mo_append_343 rfl (lv_at hl 3 rfl) ?_
    refine nw_get (D := D) (ci := 5) (C := R_Mo) (T := T_Mo) (N := 16) hx hb hts in_Mo hown hK.k hP (i := 0) (by decide) md_0 rfl 13 (by decide) (hts _ kf_Mo_30) rfl d_Mo_append_344 ?_
    refine lv_eqi (y := nI b) rfl ?_
    refine lv_dup2_11 hx hb d_Mo_append_347 rfl rfl ?_
    refine nw_iald hx hb hK.k hP (i := 5) (by decide) md_5 1 rfl (vp_in_nI (by omega) (by omega)) d_Mo_append_348 ?_
    refine lv_eqi (y := nI (co b)) (by rw [nI_clamp (by omega)]) ?_
    refine lv_iconst (v := nI 1) hx hb d_Mo_append_349 (by decide) ?_
    refine lv_iadd hx hb d_Mo_append_350 ?_
    refine lv_eqi (nI_add _ _) ?_
    refine nw_iast hx hb hK.k hP hD hS (i := 5) (by decide) md_5 1 rfl (vp_in_nI (by omega) (by omega)) d_Mo_append_351 (fun H locs hP hS hz hq => ?_)
    rw [nI_clamp (by omega), in_upd] at hP
    have hP : nw D vcl PM ad (mdC cy ad 0 false tp 0 (cutW w cp) (cutP w cp) cb we be lg (va_up co b (co b + 1)) (va_up fi b (fi b + (9 + tn))) bn (some b) (mRB ro a kd mo k tn tp) fo) H := nw_congr hP (mdu_co)
    refine lv_aload_n hx hb d_Mo_append_352 rfl (lv_at hl 3 rfl) ?_
    refine nw_get (D := D) (ci := 5) (C := R_Mo) (T := T_Mo) (N := 16) hx hb hts in_Mo hown hK.k hP (i := 0) (by decide) md_0 rfl 10 (by decide) (hts _ kf_Mo_24) rfl d_Mo_append_353 ?_
    refine lv_aload_n hx hb d_Mo_append_356 rfl (lv_at hl 3 rfl) ?_
    refine nw_get (D := D) (ci := 5) (C := R_Mo) (T := T_Mo) (N := 16) hx hb hts in_Mo hown hK.k hP (i := 0) (by decide) md_0 rfl 13 (by decide) (hts _ kf_Mo_30) rfl d_Mo_append_357 ?_
    refine lv_eqi (y := nI b) rfl ?_
    refine nw_iald hx hb hK.k hP (i := 5) (by decide) md_5 1 rfl (vp_in_nI (by omega) (by omega)) d_Mo_append_360 ?_
    refine lv_eqi (y := nI ((va_up co b (co b + 1)) b)) (by rw [nI_clamp (by omega)]) ?_
    refine lv_eqi (y := nI (co b + 1)) (by rw [va_up_self]) ?_
    exact end_I F hr hlk rfl hP hS d_Mo_append_361
  have lp2 : ∀ (d u : Nat), u + d = tn → ∀ (H : Heap) (locs : List Loc) (ls : Array Slot), nw D vcl PM ad (mdC cy ad 0 false tp 0 (cutW w cp) (cutP w cp) cb we be lg co fi bn (some b) (upN (mRM ro a kd mo k tn) (a + 9) tp u) fo) H → va_S (na PM ad s.heap.size) s.heap H locs → lv_has ls 8 [(7, .int (nI u)), (6, .int (nI a)), (5, .int (nI 1)), (4, .int (nI tn)), (0, .ref (ad 0)), (1, .int (nI kd)), (2, .int (nI mo)), (3, .int (nI k))] → W p l e RM s m [.ref (ad 0), .int (nI kd), .int (nI mo), .int (nI k)].toArray below meth c H locs 0 0 (MQ below (va_Qi (fun r' (_ : Unit) => r' = nI (co b + 1)) (fun _ t => nw D vcl PM ad (mdC cy ad 0 false tp 0 (cutW w cp) (cutP w cp) cb we be lg (va_up co b (co b + 1)) (va_up fi b (fi b + (9 + tn))) bn (some b) (mRB ro a kd mo k tn tp) fo) t.heap) (na PM ad s.heap.size)) [.ref (ad 0), .int (nI kd), .int (nI mo), .int (nI k)].toArray s 0 0 (na PM ad s.heap.size)) (F0 m 289 ls []) := by
    intro d
    induction d with
    | zero =>
      intro u hu H locs ls hP hS hl
      obtain rfl : u = tn := by omega
      refine lv_iload hx hb d_Mo_append_289 (lv_at hl 0 rfl) ?_
      refine lv_iload hx hb d_Mo_append_291 (lv_at hl 3 rfl) ?_
      refine lv_icmp_ge (tgt := 322) hx hb d_Mo_append_293 (by decide) (fun c293 => ?_) (fun c293 => absurd ((nI_leI (by omega) (by omega)).mpr (by omega)) c293)
      exact fin _ _ _ hP hS (lv_sub hl [1, 2, 3, 4, 5, 6, 7] rfl)
    | succ d ihd =>
      intro u hu H locs ls hP hS hl
      refine lv_iload hx hb d_Mo_append_289 (lv_at hl 0 rfl) ?_
      refine lv_iload hx hb d_Mo_append_291 (lv_at hl 3 rfl) ?_
      refine lv_icmp_ge (tgt := 322) hx hb d_Mo_append_293 (by decide) (fun c293 => absurd c293 (fun z => absurd ((nI_leI (by omega) (by omega)).mp z) (by omega))) (fun c293 => ?_)
      refine lv_aload_n hx hb d_Mo_append_296 rfl (lv_at hl 4 rfl) ?_
      refine nw_get (D := D) (ci := 5) (C := R_Mo) (T := T_Mo) (N := 16) hx hb hts in_Mo hown hK.k hP (i := 0) (by decide) md_0 rfl 14 (by decide) (hts _ kf_Mo_35) rfl d_Mo_append_297 ?_
      refine lv_iload hx hb d_Mo_append_300 (lv_at hl 1 rfl) ?_
      refine lv_bipush (v := nI 9) hx hb d_Mo_append_302 (by decide) ?_
      refine lv_iadd hx hb d_Mo_append_304 ?_
      refine lv_eqi (nI_add _ _) ?_
      refine lv_iload hx hb d_Mo_append_305 (lv_at hl 0 rfl) ?_
      refine lv_iadd hx hb d_Mo_append_307 ?_
      refine lv_eqi (nI_add _ _) ?_
      refine lv_aload_n hx hb d_Mo_append_308 rfl (lv_at hl 4 rfl) ?_
      refine nw_get (D := D) (ci := 5) (C := R_Mo) (T := T_Mo) (N := 16) hx hb hts in_Mo hown hK.k hP (i := 0) (by decide) md_0 rfl 2 (by decide) (hts _ kf_Mo_7) rfl d_Mo_append_309 ?_
      refine lv_iload hx hb d_Mo_append_312 (lv_at hl 0 rfl) ?_
      refine nw_bald hx hb hK.k hP (i := 1) (by decide) md_1 0 rfl (vp_in_nI (by omega) (by omega)) d_Mo_append_314 ?_
      refine lv_eqi (y := sb_b (tp u)) (by rw [nI_clamp (by omega)]) ?_
      refine nw_bast hx hb hK.k hP hD hS (i := 7) (by decide) md_7 0 rfl (vp_in_nI (by omega) (by omega)) d_Mo_append_315 (fun H locs hP hS hz hq => ?_)
      rw [nI_clamp (by omega), sb_nb, by_upd] at hP
      have hP : nw D vcl PM ad (mdC cy ad 0 false tp 0 (cutW w cp) (cutP w cp) cb we be lg co fi bn (some b) (upN (mRM ro a kd mo k tn) (a + 9) tp (u + 1)) fo) H := nw_congr hP (mdu_ro)
      refine lv_iinc (v := nI (u + 1)) (lv' := [(7, .int (nI (u + 1))), (6, .int (nI a)), (5, .int (nI 1)), (4, .int (nI tn)), (0, .ref (ad 0)), (1, .int (nI kd)), (2, .int (nI mo)), (3, .int (nI k))]) hx hb d_Mo_append_316 hl (k := 0) rfl (nI_inc _) (by decide) rfl (fun ls hl => ?_)
      refine lv_goto (tgt := 289) hx hb d_Mo_append_319 (by decide) ?_
      exact ihd (u + 1) (by omega) _ _ _ hP hS (lv_sub hl [0, 1, 2, 3, 4, 5, 6, 7] rfl)
  have lp1 : ∀ (d u : Nat), u + d = 4 → ∀ (H : Heap) (locs : List Loc) (ls : Array Slot), nw D vcl PM ad (mdC cy ad 0 false tp 0 (cutW w cp) (cutP w cp) cb we be lg co fi bn (some b) (upN (mRH ro a kd k tn) (a + 4) (fun i => nb (nI mo) (3 - i)) u) fo) H → va_S (na PM ad s.heap.size) s.heap H locs → lv_has ls 8 [(7, .int (nI u)), (6, .int (nI a)), (5, .int (nI 1)), (4, .int (nI tn)), (0, .ref (ad 0)), (1, .int (nI kd)), (2, .int (nI mo)), (3, .int (nI k))] → W p l e RM s m [.ref (ad 0), .int (nI kd), .int (nI mo), .int (nI k)].toArray below meth c H locs 0 0 (MQ below (va_Qi (fun r' (_ : Unit) => r' = nI (co b + 1)) (fun _ t => nw D vcl PM ad (mdC cy ad 0 false tp 0 (cutW w cp) (cutP w cp) cb we be lg (va_up co b (co b + 1)) (va_up fi b (fi b + (9 + tn))) bn (some b) (mRB ro a kd mo k tn tp) fo) t.heap) (na PM ad s.heap.size)) [.ref (ad 0), .int (nI kd), .int (nI mo), .int (nI k)].toArray s 0 0 (na PM ad s.heap.size)) (F0 m 251 ls []) := by
    intro d
    induction d with
    | zero =>
      intro u hu H locs ls hP hS hl
      obtain rfl : u = 4 := by omega
      refine lv_iload hx hb d_Mo_append_251 (lv_at hl 0 rfl) ?_
      refine lv_iconst (v := nI 4) hx hb d_Mo_append_253 (by decide) ?_
      refine lv_icmp_ge (tgt := 286) hx hb d_Mo_append_254 (by decide) (fun c254 => ?_) (fun c254 => absurd ((nI_leI (by omega) (by omega)).mpr (by omega)) c254)
      refine lv_iconst (v := nI 0) hx hb d_Mo_append_286 (by decide) ?_
      refine lv_istore (lv' := [(7, .int (nI 0)), (6, .int (nI a)), (5, .int (nI 1)), (4, .int (nI tn)), (0, .ref (ad 0)), (1, .int (nI kd)), (2, .int (nI mo)), (3, .int (nI k))]) hx hb d_Mo_append_287 hl (by decide) rfl (fun ls hl => ?_)
      exact lp2 tn 0 (by omega) _ _ _ hP hS (lv_sub hl [0, 1, 2, 3, 4, 5, 6, 7] rfl)
    | succ d ihd =>
      intro u hu H locs ls hP hS hl
      refine lv_iload hx hb d_Mo_append_251 (lv_at hl 0 rfl) ?_
      refine lv_iconst (v := nI 4) hx hb d_Mo_append_253 (by decide) ?_
      refine lv_icmp_ge (tgt := 286) hx hb d_Mo_append_254 (by decide) (fun c254 => absurd c254 (fun z => absurd ((nI_leI (by omega) (by omega)).mp z) (by omega))) (fun c254 => ?_)
      refine lv_aload_n hx hb d_Mo_append_257 rfl (lv_at hl 4 rfl) ?_
      refine nw_get (D := D) (ci := 5) (C := R_Mo) (T := T_Mo) (N := 16) hx hb hts in_Mo hown hK.k hP (i := 0) (by decide) md_0 rfl 14 (by decide) (hts _ kf_Mo_35) rfl d_Mo_append_258 ?_
      refine lv_iload hx hb d_Mo_append_261 (lv_at hl 1 rfl) ?_
      refine lv_iconst (v := nI 4) hx hb d_Mo_append_263 (by decide) ?_
      refine lv_iadd hx hb d_Mo_append_264 ?_
      refine lv_eqi (nI_add _ _) ?_
      refine lv_iload hx hb d_Mo_append_265 (lv_at hl 0 rfl) ?_
      refine lv_iadd hx hb d_Mo_append_267 ?_
      refine lv_eqi (nI_add _ _) ?_
      refine lv_iload_n hx hb d_Mo_append_268 rfl (lv_at hl 6 rfl) ?_
      refine lv_bipush (v := nI 24) hx hb d_Mo_append_269 (by decide) ?_
      refine lv_bipush (v := nI 8) hx hb d_Mo_append_271 (by decide) ?_
      refine lv_iload hx hb d_Mo_append_273 (lv_at hl 0 rfl) ?_
      refine lv_imul hx hb d_Mo_append_275 ?_
      refine lv_eqi (pk_mul _ _) ?_
      refine lv_isub hx hb d_Mo_append_276 ?_
      refine lv_eqi (pk_sub (by omega)) ?_
      refine lv_ishr hx hb d_Mo_append_277 ?_
      refine lv_i2b hx hb d_Mo_append_278 rfl ?_
      refine nw_bast hx hb hK.k hP hD hS (i := 7) (by decide) md_7 0 rfl (vp_in_nI (by omega) (by omega)) d_Mo_append_279 (fun H locs hP hS hz hq => ?_)
      rw [nI_clamp (by omega), sb_na, bof_sh _ (by omega), by_upd] at hP
      have hP : nw D vcl PM ad (mdC cy ad 0 false tp 0 (cutW w cp) (cutP w cp) cb we be lg co fi bn (some b) (upN (mRH ro a kd k tn) (a + 4) (fun i => nb (nI mo) (3 - i)) (u + 1)) fo) H := nw_congr hP (mdu_ro)
      refine lv_iinc (v := nI (u + 1)) (lv' := [(7, .int (nI (u + 1))), (6, .int (nI a)), (5, .int (nI 1)), (4, .int (nI tn)), (0, .ref (ad 0)), (1, .int (nI kd)), (2, .int (nI mo)), (3, .int (nI k))]) hx hb d_Mo_append_280 hl (k := 0) rfl (nI_inc _) (by decide) rfl (fun ls hl => ?_)
      refine lv_goto (tgt := 251) hx hb d_Mo_append_283 (by decide) ?_
      exact ihd (u + 1) (by omega) _ _ _ hP hS (lv_sub hl [0, 1, 2, 3, 4, 5, 6, 7] rfl)
  exact lp1 4 0 (by omega) _ _ _ hP hS (lv_sub hl [0, 1, 2, 3, 4, 5, 6, 7] rfl)
set_option maxRecDepth 100000 in
set_option maxHeartbeats 4000000 in
theorem c_Mo_append7n (l : Launch) (D : va_G) (cy : Nat → ClassId) (ad : Nat → Nat) (fl tn cp cb bn fo : Nat) (dn w : Bool) (tp we be co fi ro : Nat → Nat) (lg : Nat → Bool) (op : Option Nat) (kd mo k : Nat) (hkd1 : 1 ≤ kd) (hkd2 : kd ≤ 15) (hmo : mo < 2 ^ 31) (hk : k ≤ 45) (hkt : k ≤ tn) (htk : tn ≤ k + 1000)  (h24 : cntL lg 24 ≠ 24) (cp2 bn2 : Nat) (w2 : Bool) (we2 be2 co2 fi2 : Nat → Nat) (lg2 : Nat → Bool) (dn2 : Bool) (op2 : Option Nat) (hT : mtI l y_Mo_take b_Mo_take 3 (some .boolean) { frames := 1, cells := 0, slots := 0, locals := 21 } D cy [.ref (ad 0)] PM ad (mdC cy ad 0 false tp 0 w cp cb we be lg co fi bn none ro fo) (mdC cy ad 0 dn2 tp 0 w2 cp2 cb we2 be2 lg2 co2 fi2 bn2 op2 ro fo) (bI false)) : mtI l y_Mo_append b_Mo_append 8 (some .int) RM D cy [.ref (ad 0), .int (nI kd), .int (nI mo), .int (nI k)] PM ad (mdC cy ad fl false tp tn w cp cb we be lg co fi bn none ro fo) (mdC cy ad 2 dn2 tp 0 w2 cp2 cb we2 be2 lg2 co2 fi2 bn2 op2 ro fo) (nI 0) := by
  intro sz
  refine nm_ofW (cc := b_Mo_append) (maxL := 8) (ret := (some .int)) (own := R_Mo) (by decide) (Nat.le_of_ble_eq_true rfl) rfl ?_
  intro p e s m below meth c ls F hr hlk hnm hv hl
  obtain ⟨hx, hb, hml, hown, hts⟩ := id F
  obtain ⟨rfl, hP, hK, hI⟩ := hv
  have hD : nd (na PM ad s.heap.size) PM ad := nd_self hI
  have hA : ∀ q, s.heap.size ≤ q → na PM ad s.heap.size q := fun q h => Or.inr h
  have hS : va_S (na PM ad s.heap.size) s.heap s.heap [] := va_S.rf
  have hl : lv_has ls 8 [(0, .ref (ad 0)), (1, .int (nI kd)), (2, .int (nI mo)), (3, .int (nI k))] := hl
  have hcl := cntL_le lg 24
  refine lv_aload_n hx hb d_Mo_append_0 rfl (lv_at hl 0 rfl) ?_
  refine lv_iconst (v := nI 0) hx hb d_Mo_append_1 (by decide) ?_
  refine nw_put (D := D) (ci := 5) (C := R_Mo) (T := T_Mo) (N := 16) hx hb hts in_Mo ty_Mo tk_Mo nm_Mo hown hK.k hP hD hS (i := 0) (by decide) md_0 rfl 0 (by decide) (hts _ kf_Mo_38) rfl rfl rfl (Nat.le_of_ble_eq_true rfl) d_Mo_append_2 (fun H locs hP hS hz hq => ?_)
  have hP : nw D vcl PM ad (mdC cy ad 0 false tp tn w cp cb we be lg co fi bn none ro fo) H := nw_congr hP (mdu_fl)
  refine lv_iload_n hx hb d_Mo_append_5 rfl (lv_at hl 1 rfl) ?_
  refine lv_iconst (v := nI 1) hx hb d_Mo_append_6 (by decide) ?_
  refine lv_icmp_lt (tgt := 50) hx hb d_Mo_append_7 (by decide) (fun c7 => absurd c7 (fun z => absurd ((nI_ltI (by omega) (by omega)).mp z) (by omega))) (fun c7 => ?_)
  refine lv_iload_n hx hb d_Mo_append_10 rfl (lv_at hl 1 rfl) ?_
  refine lv_bipush (v := nI 15) hx hb d_Mo_append_11 (by decide) ?_
  refine lv_icmp_gt (tgt := 50) hx hb d_Mo_append_13 (by decide) (fun c13 => absurd c13 (fun z => absurd ((nI_ltI (by omega) (by omega)).mp z) (by omega))) (fun c13 => ?_)
  refine lv_iload_n hx hb d_Mo_append_16 rfl (lv_at hl 2 rfl) ?_
  refine lv_if_lt (tgt := 50) hx hb d_Mo_append_17 (by decide) (fun c17 => absurd c17 (nI_pos (by omega))) (fun c17 => ?_)
  refine lv_iload_n hx hb d_Mo_append_20 rfl (lv_at hl 3 rfl) ?_
  refine lv_if_lt (tgt := 50) hx hb d_Mo_append_21 (by decide) (fun c21 => absurd c21 (nI_pos (by omega))) (fun c21 => ?_)
  refine lv_iload_n hx hb d_Mo_append_24 rfl (lv_at hl 3 rfl) ?_
  refine lv_bipush (v := nI 45) hx hb d_Mo_append_25 (by decide) ?_
  refine lv_icmp_gt (tgt := 50) hx hb d_Mo_append_27 (by decide) (fun c27 => absurd c27 (fun z => absurd ((nI_ltI (by omega) (by omega)).mp z) (by omega))) (fun c27 => ?_)
  refine lv_aload_n hx hb d_Mo_append_30 rfl (lv_at hl 0 rfl) ?_
  refine nw_get (D := D) (ci := 5) (C := R_Mo) (T := T_Mo) (N := 16) hx hb hts in_Mo hown hK.k hP (i := 0) (by decide) md_0 rfl 3 (by decide) (hts _ kf_Mo_49) rfl d_Mo_append_31 ?_
  refine lv_iload_n hx hb d_Mo_append_34 rfl (lv_at hl 3 rfl) ?_
  refine lv_icmp_lt (tgt := 50) hx hb d_Mo_append_35 (by decide) (fun c35 => absurd c35 (fun z => absurd ((nI_ltI (by omega) (by omega)).mp z) (by omega))) (fun c35 => ?_)
  refine lv_aload_n hx hb d_Mo_append_38 rfl (lv_at hl 0 rfl) ?_
  refine nw_get (D := D) (ci := 5) (C := R_Mo) (T := T_Mo) (N := 16) hx hb hts in_Mo hown hK.k hP (i := 0) (by decide) md_0 rfl 3 (by decide) (hts _ kf_Mo_49) rfl d_Mo_append_39 ?_
  refine lv_iload_n hx hb d_Mo_append_42 rfl (lv_at hl 3 rfl) ?_
  refine lv_isub hx hb d_Mo_append_43 ?_
  refine lv_eqi (pk_sub (by omega)) ?_
  refine lv_sipush (v := nI 1000) hx hb d_Mo_append_44 (by decide) ?_
  refine lv_icmp_le (tgt := 56) hx hb d_Mo_append_47 (by decide) (fun c47 => ?_) (fun c47 => absurd ((nI_leI (by omega) (by omega)).mpr (by omega)) c47)
  refine lv_aload_n hx hb d_Mo_append_56 rfl (lv_at hl 0 rfl) ?_
  refine nw_get (D := D) (ci := 5) (C := R_Mo) (T := T_Mo) (N := 16) hx hb hts in_Mo hown hK.k hP (i := 0) (by decide) md_0 rfl 1 (by decide) (hts _ kf_Mo_41) rfl d_Mo_append_57 ?_
  refine lv_if_eq (tgt := 69) hx hb d_Mo_append_60 (by decide) (fun c60 => ?_) (fun c60 => absurd (show bI false = 0 by decide) c60)
  refine lv_aload_n hx hb d_Mo_append_69 rfl (lv_at hl 0 rfl) ?_
  refine nw_get (D := D) (ci := 5) (C := R_Mo) (T := T_Mo) (N := 16) hx hb hts in_Mo hown hK.k hP (i := 0) (by decide) md_0 rfl 3 (by decide) (hts _ kf_Mo_49) rfl d_Mo_append_70 ?_
  refine lv_istore (lv' := [(4, .int (nI tn)), (0, .ref (ad 0)), (1, .int (nI kd)), (2, .int (nI mo)), (3, .int (nI k))]) hx hb d_Mo_append_73 hl (by decide) rfl (fun ls hl => ?_)
  refine lv_aload_n hx hb d_Mo_append_75 rfl (lv_at hl 1 rfl) ?_
  refine lv_iconst (v := nI 0) hx hb d_Mo_append_76 (by decide) ?_
  refine nw_put (D := D) (ci := 5) (C := R_Mo) (T := T_Mo) (N := 16) hx hb hts in_Mo ty_Mo tk_Mo nm_Mo hown hK.k hP hD hS (i := 0) (by decide) md_0 rfl 3 (by decide) (hts _ kf_Mo_49) rfl rfl rfl (Nat.le_of_ble_eq_true rfl) d_Mo_append_77 (fun H locs hP hS hz hq => ?_)
  have hP : nw D vcl PM ad (mdC cy ad 0 false tp 0 w cp cb we be lg co fi bn none ro fo) H := nw_congr hP (mdu_tn)
  refine lv_aload_n hx hb d_Mo_append_80 rfl (lv_at hl 1 rfl) ?_
  refine nw_get (D := D) (ci := 5) (C := R_Mo) (T := T_Mo) (N := 16) hx hb hts in_Mo hown hK.k hP (i := 0) (by decide) md_0 rfl 13 (by decide) (hts _ kf_Mo_30) rfl d_Mo_append_81 ?_
  refine lv_if_lt (tgt := 112) hx hb d_Mo_append_84 (by decide) (fun c84 => ?_) (fun c84 => absurd (show oI none < 0 by decide) c84)
  refine lv_iconst (v := nI 0) hx hb d_Mo_append_112 (by decide) ?_
  refine lv_istore (lv' := [(5, .int (nI 0)), (4, .int (nI tn)), (0, .ref (ad 0)), (1, .int (nI kd)), (2, .int (nI mo)), (3, .int (nI k))]) hx hb d_Mo_append_113 hl (by decide) rfl (fun ls hl => ?_)
  refine lv_iload hx hb d_Mo_append_115 (lv_at hl 0 rfl) ?_
  refine lv_if_ne (tgt := 135) hx hb d_Mo_append_117 (by decide) (fun c117 => absurd (show nI 0 = 0 by decide) c117) (fun c117 => ?_)
  refine lv_aload_n hx hb d_Mo_append_120 rfl (lv_at hl 2 rfl) ?_
  refine call_R (As := []) (rest := []) F hK (c_Mo_blocks l D cy ad 0 0 cp cb bn fo false w tp we be co fi ro lg none) km_Mo_67 ki_Mo_blocks ks_Mo_blocks k0_Mo kc_Mo_blocks kd_Mo_blocks ⟨Nat.le_of_ble_eq_true rfl, Nat.le_of_ble_eq_true rfl⟩ (nw_recv hK.k hP (i := 0) (by decide) md_0 rfl) (hP) (hI) hl.1 rfl (Nat.le_of_ble_eq_true rfl) d_Mo_append_121 ⟨(Nat.le_of_ble_eq_true rfl), (Nat.le_of_ble_eq_true rfl)⟩ hS (fun H1 locs1 hN hS => ?_)
  have hP := hN _ _ _ hP
  generalize H1 = H at hP hS ⊢
  refine lv_bipush (v := nI 24) hx hb d_Mo_append_124 (by decide) ?_
  refine lv_icmp_ne (tgt := 135) hx hb d_Mo_append_126 (by decide) (fun c126 => ?_) (fun c126 => absurd ((nI_eq (by omega) (by omega)).mp c126) h24)
  refine lv_iload hx hb d_Mo_append_135 (lv_at hl 0 rfl) ?_
  refine lv_if_ne (tgt := 153) hx hb d_Mo_append_137 (by decide) (fun c137 => absurd (show nI 0 = 0 by decide) c137) (fun c137 => ?_)
  refine lv_aload_n hx hb d_Mo_append_140 rfl (lv_at hl 2 rfl) ?_
  refine call_I (As := []) (rest := []) F hK (hT) km_Mo_71 ki_Mo_take ks_Mo_take k0_Mo kc_Mo_take kd_Mo_take ⟨Nat.le_of_ble_eq_true rfl, Nat.le_of_ble_eq_true rfl⟩ (nw_recv hK.k hP (i := 0) (by decide) md_0 rfl) (hP) (hI) hl.1 rfl (Nat.le_of_ble_eq_true rfl) d_Mo_append_141 ⟨(Nat.le_of_ble_eq_true rfl), (Nat.le_of_ble_eq_true rfl)⟩ hS (na_le hS) (fun H1 locs1 hP1 hk1 hS => ?_)
  have hP : nw D vcl PM ad (mdC cy ad 0 dn2 tp 0 w2 cp2 cb we2 be2 lg2 co2 fi2 bn2 op2 ro fo) H1 := hP1
  generalize H1 = H at hP hS ⊢
  refine lv_if_ne (tgt := 153) hx hb d_Mo_append_144 (by decide) (fun c144 => absurd (show bI false = 0 by decide) c144) (fun c144 => ?_)
  refine lv_aload_n hx hb d_Mo_append_147 rfl (lv_at hl 2 rfl) ?_
  refine lv_iconst (v := nI 2) hx hb d_Mo_append_148 (by decide) ?_
  refine call_I (As := [.int (nI 2)]) (rest := []) F hK (c_Mo_fail l D cy ad 0 0 cp2 cb bn2 fo dn2 w2 tp we2 be2 co2 fi2 ro lg2 op2 2) km_Mo_45 ki_Mo_fail ks_Mo_fail k0_Mo kc_Mo_fail kd_Mo_fail ⟨Nat.le_of_ble_eq_true rfl, Nat.le_of_ble_eq_true rfl⟩ (nw_recv hK.k hP (i := 0) (by decide) md_0 rfl) (hP) (hI) hl.1 rfl (Nat.le_of_ble_eq_true rfl) d_Mo_append_149 ⟨(Nat.le_of_ble_eq_true rfl), (Nat.le_of_ble_eq_true rfl)⟩ hS (na_le hS) (fun H1 locs1 hP1 hk1 hS => ?_)
  have hP : nw D vcl PM ad (mdC cy ad 2 dn2 tp 0 w2 cp2 cb we2 be2 lg2 co2 fi2 bn2 op2 ro fo) H1 := hP1
  generalize H1 = H at hP hS ⊢
  exact end_I F hr hlk rfl hP hS d_Mo_append_152
set_option maxRecDepth 100000 in
set_option maxHeartbeats 4000000 in
theorem c_Mo_append8n (l : Launch) (D : va_G) (cy : Nat → ClassId) (ad : Nat → Nat) (fl tn cp cb bn fo : Nat) (dn w : Bool) (tp we be co fi ro : Nat → Nat) (lg : Nat → Bool) (op : Option Nat) (kd mo k : Nat) (hkd1 : 1 ≤ kd) (hkd2 : kd ≤ 15) (hmo : mo < 2 ^ 31) (hk : k ≤ 45) (hkt : k ≤ tn) (htk : tn ≤ k + 1000)  (h24 : cntL lg 24 ≠ 24) (cp2 bn2 : Nat) (w2 : Bool) (we2 be2 co2 fi2 : Nat → Nat) (lg2 : Nat → Bool) (b2 : Nat) (hT : mtI l y_Mo_take b_Mo_take 3 (some .boolean) { frames := 1, cells := 0, slots := 0, locals := 21 } D cy [.ref (ad 0)] PM ad (mdC cy ad 0 false tp 0 w cp cb we be lg co fi bn none ro fo) (mdC cy ad 0 false tp 0 w2 cp2 cb we2 be2 lg2 co2 fi2 bn2 (some b2) ro fo) (bI true)) (hb2 : b2 < 24) (HQ2 : ∀ b, b < 24 → fi2 b ≤ 2040 ∧ co2 b < 2 ^ 16) (hroom2 : fi2 b2 + 9 + tn ≤ 2040) (hcp : cp2 < 2 ^ 31) (hcb : cb < 2 ^ 31) (hdn : cutF w2 cp2 = true) : mtI l y_Mo_append b_Mo_append 8 (some .int) RM D cy [.ref (ad 0), .int (nI kd), .int (nI mo), .int (nI k)] PM ad (mdC cy ad fl false tp tn w cp cb we be lg co fi bn none ro fo) (mdC cy ad 2 true tp 0 (cutW w2 cp2) (cutP w2 cp2) cb we2 be2 lg2 co2 fi2 bn2 (some b2) ro fo) (nI 0) := by
  intro sz
  refine nm_ofW (cc := b_Mo_append) (maxL := 8) (ret := (some .int)) (own := R_Mo) (by decide) (Nat.le_of_ble_eq_true rfl) rfl ?_
  intro p e s m below meth c ls F hr hlk hnm hv hl
  obtain ⟨hx, hb, hml, hown, hts⟩ := id F
  obtain ⟨rfl, hP, hK, hI⟩ := hv
  have hD : nd (na PM ad s.heap.size) PM ad := nd_self hI
  have hA : ∀ q, s.heap.size ≤ q → na PM ad s.heap.size q := fun q h => Or.inr h
  have hS : va_S (na PM ad s.heap.size) s.heap s.heap [] := va_S.rf
  have hl : lv_has ls 8 [(0, .ref (ad 0)), (1, .int (nI kd)), (2, .int (nI mo)), (3, .int (nI k))] := hl
  have hq2 := HQ2 b2 hb2
  have hcl := cntL_le lg 24
  refine lv_aload_n hx hb d_Mo_append_0 rfl (lv_at hl 0 rfl) ?_
  refine lv_iconst (v := nI 0) hx hb d_Mo_append_1 (by decide) ?_
  refine nw_put (D := D) (ci := 5) (C := R_Mo) (T := T_Mo) (N := 16) hx hb hts in_Mo ty_Mo tk_Mo nm_Mo hown hK.k hP hD hS (i := 0) (by decide) md_0 rfl 0 (by decide) (hts _ kf_Mo_38) rfl rfl rfl (Nat.le_of_ble_eq_true rfl) d_Mo_append_2 (fun H locs hP hS hz hq => ?_)
  have hP : nw D vcl PM ad (mdC cy ad 0 false tp tn w cp cb we be lg co fi bn none ro fo) H := nw_congr hP (mdu_fl)
  refine lv_iload_n hx hb d_Mo_append_5 rfl (lv_at hl 1 rfl) ?_
  refine lv_iconst (v := nI 1) hx hb d_Mo_append_6 (by decide) ?_
  refine lv_icmp_lt (tgt := 50) hx hb d_Mo_append_7 (by decide) (fun c7 => absurd c7 (fun z => absurd ((nI_ltI (by omega) (by omega)).mp z) (by omega))) (fun c7 => ?_)
  refine lv_iload_n hx hb d_Mo_append_10 rfl (lv_at hl 1 rfl) ?_
  refine lv_bipush (v := nI 15) hx hb d_Mo_append_11 (by decide) ?_
  refine lv_icmp_gt (tgt := 50) hx hb d_Mo_append_13 (by decide) (fun c13 => absurd c13 (fun z => absurd ((nI_ltI (by omega) (by omega)).mp z) (by omega))) (fun c13 => ?_)
  refine lv_iload_n hx hb d_Mo_append_16 rfl (lv_at hl 2 rfl) ?_
  refine lv_if_lt (tgt := 50) hx hb d_Mo_append_17 (by decide) (fun c17 => absurd c17 (nI_pos (by omega))) (fun c17 => ?_)
  refine lv_iload_n hx hb d_Mo_append_20 rfl (lv_at hl 3 rfl) ?_
  refine lv_if_lt (tgt := 50) hx hb d_Mo_append_21 (by decide) (fun c21 => absurd c21 (nI_pos (by omega))) (fun c21 => ?_)
  refine lv_iload_n hx hb d_Mo_append_24 rfl (lv_at hl 3 rfl) ?_
  refine lv_bipush (v := nI 45) hx hb d_Mo_append_25 (by decide) ?_
  refine lv_icmp_gt (tgt := 50) hx hb d_Mo_append_27 (by decide) (fun c27 => absurd c27 (fun z => absurd ((nI_ltI (by omega) (by omega)).mp z) (by omega))) (fun c27 => ?_)
  refine lv_aload_n hx hb d_Mo_append_30 rfl (lv_at hl 0 rfl) ?_
  refine nw_get (D := D) (ci := 5) (C := R_Mo) (T := T_Mo) (N := 16) hx hb hts in_Mo hown hK.k hP (i := 0) (by decide) md_0 rfl 3 (by decide) (hts _ kf_Mo_49) rfl d_Mo_append_31 ?_
  refine lv_iload_n hx hb d_Mo_append_34 rfl (lv_at hl 3 rfl) ?_
  refine lv_icmp_lt (tgt := 50) hx hb d_Mo_append_35 (by decide) (fun c35 => absurd c35 (fun z => absurd ((nI_ltI (by omega) (by omega)).mp z) (by omega))) (fun c35 => ?_)
  refine lv_aload_n hx hb d_Mo_append_38 rfl (lv_at hl 0 rfl) ?_
  refine nw_get (D := D) (ci := 5) (C := R_Mo) (T := T_Mo) (N := 16) hx hb hts in_Mo hown hK.k hP (i := 0) (by decide) md_0 rfl 3 (by decide) (hts _ kf_Mo_49) rfl d_Mo_append_39 ?_
  refine lv_iload_n hx hb d_Mo_append_42 rfl (lv_at hl 3 rfl) ?_
  refine lv_isub hx hb d_Mo_append_43 ?_
  refine lv_eqi (pk_sub (by omega)) ?_
  refine lv_sipush (v := nI 1000) hx hb d_Mo_append_44 (by decide) ?_
  refine lv_icmp_le (tgt := 56) hx hb d_Mo_append_47 (by decide) (fun c47 => ?_) (fun c47 => absurd ((nI_leI (by omega) (by omega)).mpr (by omega)) c47)
  refine lv_aload_n hx hb d_Mo_append_56 rfl (lv_at hl 0 rfl) ?_
  refine nw_get (D := D) (ci := 5) (C := R_Mo) (T := T_Mo) (N := 16) hx hb hts in_Mo hown hK.k hP (i := 0) (by decide) md_0 rfl 1 (by decide) (hts _ kf_Mo_41) rfl d_Mo_append_57 ?_
  refine lv_if_eq (tgt := 69) hx hb d_Mo_append_60 (by decide) (fun c60 => ?_) (fun c60 => absurd (show bI false = 0 by decide) c60)
  refine lv_aload_n hx hb d_Mo_append_69 rfl (lv_at hl 0 rfl) ?_
  refine nw_get (D := D) (ci := 5) (C := R_Mo) (T := T_Mo) (N := 16) hx hb hts in_Mo hown hK.k hP (i := 0) (by decide) md_0 rfl 3 (by decide) (hts _ kf_Mo_49) rfl d_Mo_append_70 ?_
  refine lv_istore (lv' := [(4, .int (nI tn)), (0, .ref (ad 0)), (1, .int (nI kd)), (2, .int (nI mo)), (3, .int (nI k))]) hx hb d_Mo_append_73 hl (by decide) rfl (fun ls hl => ?_)
  refine lv_aload_n hx hb d_Mo_append_75 rfl (lv_at hl 1 rfl) ?_
  refine lv_iconst (v := nI 0) hx hb d_Mo_append_76 (by decide) ?_
  refine nw_put (D := D) (ci := 5) (C := R_Mo) (T := T_Mo) (N := 16) hx hb hts in_Mo ty_Mo tk_Mo nm_Mo hown hK.k hP hD hS (i := 0) (by decide) md_0 rfl 3 (by decide) (hts _ kf_Mo_49) rfl rfl rfl (Nat.le_of_ble_eq_true rfl) d_Mo_append_77 (fun H locs hP hS hz hq => ?_)
  have hP : nw D vcl PM ad (mdC cy ad 0 false tp 0 w cp cb we be lg co fi bn none ro fo) H := nw_congr hP (mdu_tn)
  refine lv_aload_n hx hb d_Mo_append_80 rfl (lv_at hl 1 rfl) ?_
  refine nw_get (D := D) (ci := 5) (C := R_Mo) (T := T_Mo) (N := 16) hx hb hts in_Mo hown hK.k hP (i := 0) (by decide) md_0 rfl 13 (by decide) (hts _ kf_Mo_30) rfl d_Mo_append_81 ?_
  refine lv_if_lt (tgt := 112) hx hb d_Mo_append_84 (by decide) (fun c84 => ?_) (fun c84 => absurd (show oI none < 0 by decide) c84)
  refine lv_iconst (v := nI 0) hx hb d_Mo_append_112 (by decide) ?_
  refine lv_istore (lv' := [(5, .int (nI 0)), (4, .int (nI tn)), (0, .ref (ad 0)), (1, .int (nI kd)), (2, .int (nI mo)), (3, .int (nI k))]) hx hb d_Mo_append_113 hl (by decide) rfl (fun ls hl => ?_)
  refine lv_iload hx hb d_Mo_append_115 (lv_at hl 0 rfl) ?_
  refine lv_if_ne (tgt := 135) hx hb d_Mo_append_117 (by decide) (fun c117 => absurd (show nI 0 = 0 by decide) c117) (fun c117 => ?_)
  refine lv_aload_n hx hb d_Mo_append_120 rfl (lv_at hl 2 rfl) ?_
  refine call_R (As := []) (rest := []) F hK (c_Mo_blocks l D cy ad 0 0 cp cb bn fo false w tp we be co fi ro lg none) km_Mo_67 ki_Mo_blocks ks_Mo_blocks k0_Mo kc_Mo_blocks kd_Mo_blocks ⟨Nat.le_of_ble_eq_true rfl, Nat.le_of_ble_eq_true rfl⟩ (nw_recv hK.k hP (i := 0) (by decide) md_0 rfl) (hP) (hI) hl.1 rfl (Nat.le_of_ble_eq_true rfl) d_Mo_append_121 ⟨(Nat.le_of_ble_eq_true rfl), (Nat.le_of_ble_eq_true rfl)⟩ hS (fun H1 locs1 hN hS => ?_)
  have hP := hN _ _ _ hP
  generalize H1 = H at hP hS ⊢
  refine lv_bipush (v := nI 24) hx hb d_Mo_append_124 (by decide) ?_
  refine lv_icmp_ne (tgt := 135) hx hb d_Mo_append_126 (by decide) (fun c126 => ?_) (fun c126 => absurd ((nI_eq (by omega) (by omega)).mp c126) h24)
  refine lv_iload hx hb d_Mo_append_135 (lv_at hl 0 rfl) ?_
  refine lv_if_ne (tgt := 153) hx hb d_Mo_append_137 (by decide) (fun c137 => absurd (show nI 0 = 0 by decide) c137) (fun c137 => ?_)
  refine lv_aload_n hx hb d_Mo_append_140 rfl (lv_at hl 2 rfl) ?_
  refine call_I (As := []) (rest := []) F hK (hT) km_Mo_71 ki_Mo_take ks_Mo_take k0_Mo kc_Mo_take kd_Mo_take ⟨Nat.le_of_ble_eq_true rfl, Nat.le_of_ble_eq_true rfl⟩ (nw_recv hK.k hP (i := 0) (by decide) md_0 rfl) (hP) (hI) hl.1 rfl (Nat.le_of_ble_eq_true rfl) d_Mo_append_141 ⟨(Nat.le_of_ble_eq_true rfl), (Nat.le_of_ble_eq_true rfl)⟩ hS (na_le hS) (fun H1 locs1 hP1 hk1 hS => ?_)
  have hP : nw D vcl PM ad (mdC cy ad 0 false tp 0 w2 cp2 cb we2 be2 lg2 co2 fi2 bn2 (some b2) ro fo) H1 := hP1
  generalize H1 = H at hP hS ⊢
  refine lv_if_ne (tgt := 153) hx hb d_Mo_append_144 (by decide) (fun c144 => ?_) (fun c144 => absurd c144 (by decide))
  refine lv_aload_n hx hb d_Mo_append_153 rfl (lv_at hl 2 rfl) ?_
  refine lv_bipush (v := nI 9) hx hb d_Mo_append_154 (by decide) ?_
  refine lv_iload hx hb d_Mo_append_156 (lv_at hl 1 rfl) ?_
  refine lv_iadd hx hb d_Mo_append_158 ?_
  refine lv_eqi (nI_add _ _) ?_
  refine call_I (As := [.int (nI (9 + tn))]) (rest := []) F hK (c_Mo_partF l D cy ad 0 0 cp2 cb bn2 fo false w2 tp we2 be2 co2 fi2 ro lg2 (some b2) (9 + tn) (by omega) (by omega) hcb hcp hdn) km_Mo_61 ki_Mo_part ks_Mo_part k0_Mo kc_Mo_part kd_Mo_part ⟨Nat.le_of_ble_eq_true rfl, Nat.le_of_ble_eq_true rfl⟩ (nw_recv hK.k hP (i := 0) (by decide) md_0 rfl) (hP) (hI) hl.1 rfl (Nat.le_of_ble_eq_true rfl) d_Mo_append_159 ⟨(Nat.le_of_ble_eq_true rfl), (Nat.le_of_ble_eq_true rfl)⟩ hS (na_le hS) (fun H1 locs1 hP1 hk1 hS => ?_)
  have hP : nw D vcl PM ad (mdC cy ad 0 true tp 0 (cutW w2 cp2) (cutP w2 cp2) cb we2 be2 lg2 co2 fi2 bn2 (some b2) ro fo) H1 := hP1
  generalize H1 = H at hP hS ⊢
  refine lv_bipush (v := nI 9) hx hb d_Mo_append_162 (by decide) ?_
  refine lv_iload hx hb d_Mo_append_164 (lv_at hl 1 rfl) ?_
  refine lv_iadd hx hb d_Mo_append_166 ?_
  refine lv_eqi (nI_add _ _) ?_
  refine lv_icmp_ge (tgt := 176) hx hb d_Mo_append_167 (by decide) (fun c167 => absurd c167 (fun z => absurd ((nI_leI (by omega) (by omega)).mp z) (by omega))) (fun c167 => ?_)
  refine lv_aload_n hx hb d_Mo_append_170 rfl (lv_at hl 2 rfl) ?_
  refine lv_iconst (v := nI 2) hx hb d_Mo_append_171 (by decide) ?_
  refine call_I (As := [.int (nI 2)]) (rest := []) F hK (c_Mo_fail l D cy ad 0 0 (cutP w2 cp2) cb bn2 fo true (cutW w2 cp2) tp we2 be2 co2 fi2 ro lg2 (some b2) 2) km_Mo_45 ki_Mo_fail ks_Mo_fail k0_Mo kc_Mo_fail kd_Mo_fail ⟨Nat.le_of_ble_eq_true rfl, Nat.le_of_ble_eq_true rfl⟩ (nw_recv hK.k hP (i := 0) (by decide) md_0 rfl) (hP) (hI) hl.1 rfl (Nat.le_of_ble_eq_true rfl) d_Mo_append_172 ⟨(Nat.le_of_ble_eq_true rfl), (Nat.le_of_ble_eq_true rfl)⟩ hS (na_le hS) (fun H1 locs1 hP1 hk1 hS => ?_)
  have hP : nw D vcl PM ad (mdC cy ad 2 true tp 0 (cutW w2 cp2) (cutP w2 cp2) cb we2 be2 lg2 co2 fi2 bn2 (some b2) ro fo) H1 := hP1
  generalize H1 = H at hP hS ⊢
  exact end_I F hr hlk rfl hP hS d_Mo_append_175
set_option maxRecDepth 100000 in
set_option maxHeartbeats 4000000 in
theorem c_Mo_append9n (l : Launch) (D : va_G) (cy : Nat → ClassId) (ad : Nat → Nat) (fl tn cp cb bn fo : Nat) (dn w : Bool) (tp we be co fi ro : Nat → Nat) (lg : Nat → Bool) (op : Option Nat) (kd mo k : Nat) (hkd1 : 1 ≤ kd) (hkd2 : kd ≤ 15) (hmo : mo < 2 ^ 31) (hk : k ≤ 45) (hkt : k ≤ tn) (htk : tn ≤ k + 1000)  (h24 : cntL lg 24 ≠ 24) (cp2 bn2 : Nat) (w2 : Bool) (we2 be2 co2 fi2 : Nat → Nat) (lg2 : Nat → Bool) (b2 : Nat) (hT : mtI l y_Mo_take b_Mo_take 3 (some .boolean) { frames := 1, cells := 0, slots := 0, locals := 21 } D cy [.ref (ad 0)] PM ad (mdC cy ad 0 false tp 0 w cp cb we be lg co fi bn none ro fo) (mdC cy ad 0 false tp 0 w2 cp2 cb we2 be2 lg2 co2 fi2 bn2 (some b2) ro fo) (bI true)) (hb2 : b2 < 24) (HQ2 : ∀ b, b < 24 → fi2 b ≤ 2040 ∧ co2 b < 2 ^ 16) (hroom2 : fi2 b2 + 9 + tn ≤ 2040) (hcp : cp2 < 2 ^ 31) (hcb : cb < 2 ^ 31) (a : Nat) (ha : 2040 * b2 + fi2 b2 = a) (hdn : cutF w2 cp2 = false) : mtI l y_Mo_append b_Mo_append 8 (some .int) RM D cy [.ref (ad 0), .int (nI kd), .int (nI mo), .int (nI k)] PM ad (mdC cy ad fl false tp tn w cp cb we be lg co fi bn none ro fo) (mdC cy ad 0 false tp 0 (cutW w2 cp2) (cutP w2 cp2) cb we2 be2 lg2 (va_up co2 b2 (co2 b2 + 1)) (va_up fi2 b2 (fi2 b2 + (9 + tn))) bn2 (some b2) (mRB ro a kd mo k tn tp) fo) (nI (co2 b2 + 1)) := by
  intro sz
  refine nm_ofW (cc := b_Mo_append) (maxL := 8) (ret := (some .int)) (own := R_Mo) (by decide) (Nat.le_of_ble_eq_true rfl) rfl ?_
  intro p e s m below meth c ls F hr hlk hnm hv hl
  obtain ⟨hx, hb, hml, hown, hts⟩ := id F
  obtain ⟨rfl, hP, hK, hI⟩ := hv
  have hD : nd (na PM ad s.heap.size) PM ad := nd_self hI
  have hA : ∀ q, s.heap.size ≤ q → na PM ad s.heap.size q := fun q h => Or.inr h
  have hS : va_S (na PM ad s.heap.size) s.heap s.heap [] := va_S.rf
  have hl : lv_has ls 8 [(0, .ref (ad 0)), (1, .int (nI kd)), (2, .int (nI mo)), (3, .int (nI k))] := hl
  have hq2 := HQ2 b2 hb2
  have hcl := cntL_le lg 24
  refine lv_aload_n hx hb d_Mo_append_0 rfl (lv_at hl 0 rfl) ?_
  refine lv_iconst (v := nI 0) hx hb d_Mo_append_1 (by decide) ?_
  refine nw_put (D := D) (ci := 5) (C := R_Mo) (T := T_Mo) (N := 16) hx hb hts in_Mo ty_Mo tk_Mo nm_Mo hown hK.k hP hD hS (i := 0) (by decide) md_0 rfl 0 (by decide) (hts _ kf_Mo_38) rfl rfl rfl (Nat.le_of_ble_eq_true rfl) d_Mo_append_2 (fun H locs hP hS hz hq => ?_)
  have hP : nw D vcl PM ad (mdC cy ad 0 false tp tn w cp cb we be lg co fi bn none ro fo) H := nw_congr hP (mdu_fl)
  refine lv_iload_n hx hb d_Mo_append_5 rfl (lv_at hl 1 rfl) ?_
  refine lv_iconst (v := nI 1) hx hb d_Mo_append_6 (by decide) ?_
  refine lv_icmp_lt (tgt := 50) hx hb d_Mo_append_7 (by decide) (fun c7 => absurd c7 (fun z => absurd ((nI_ltI (by omega) (by omega)).mp z) (by omega))) (fun c7 => ?_)
  refine lv_iload_n hx hb d_Mo_append_10 rfl (lv_at hl 1 rfl) ?_
  refine lv_bipush (v := nI 15) hx hb d_Mo_append_11 (by decide) ?_
  refine lv_icmp_gt (tgt := 50) hx hb d_Mo_append_13 (by decide) (fun c13 => absurd c13 (fun z => absurd ((nI_ltI (by omega) (by omega)).mp z) (by omega))) (fun c13 => ?_)
  refine lv_iload_n hx hb d_Mo_append_16 rfl (lv_at hl 2 rfl) ?_
  refine lv_if_lt (tgt := 50) hx hb d_Mo_append_17 (by decide) (fun c17 => absurd c17 (nI_pos (by omega))) (fun c17 => ?_)
  refine lv_iload_n hx hb d_Mo_append_20 rfl (lv_at hl 3 rfl) ?_
  refine lv_if_lt (tgt := 50) hx hb d_Mo_append_21 (by decide) (fun c21 => absurd c21 (nI_pos (by omega))) (fun c21 => ?_)
  refine lv_iload_n hx hb d_Mo_append_24 rfl (lv_at hl 3 rfl) ?_
  refine lv_bipush (v := nI 45) hx hb d_Mo_append_25 (by decide) ?_
  refine lv_icmp_gt (tgt := 50) hx hb d_Mo_append_27 (by decide) (fun c27 => absurd c27 (fun z => absurd ((nI_ltI (by omega) (by omega)).mp z) (by omega))) (fun c27 => ?_)
  refine lv_aload_n hx hb d_Mo_append_30 rfl (lv_at hl 0 rfl) ?_
  refine nw_get (D := D) (ci := 5) (C := R_Mo) (T := T_Mo) (N := 16) hx hb hts in_Mo hown hK.k hP (i := 0) (by decide) md_0 rfl 3 (by decide) (hts _ kf_Mo_49) rfl d_Mo_append_31 ?_
  refine lv_iload_n hx hb d_Mo_append_34 rfl (lv_at hl 3 rfl) ?_
  refine lv_icmp_lt (tgt := 50) hx hb d_Mo_append_35 (by decide) (fun c35 => absurd c35 (fun z => absurd ((nI_ltI (by omega) (by omega)).mp z) (by omega))) (fun c35 => ?_)
  refine lv_aload_n hx hb d_Mo_append_38 rfl (lv_at hl 0 rfl) ?_
  refine nw_get (D := D) (ci := 5) (C := R_Mo) (T := T_Mo) (N := 16) hx hb hts in_Mo hown hK.k hP (i := 0) (by decide) md_0 rfl 3 (by decide) (hts _ kf_Mo_49) rfl d_Mo_append_39 ?_
  refine lv_iload_n hx hb d_Mo_append_42 rfl (lv_at hl 3 rfl) ?_
  refine lv_isub hx hb d_Mo_append_43 ?_
  refine lv_eqi (pk_sub (by omega)) ?_
  refine lv_sipush (v := nI 1000) hx hb d_Mo_append_44 (by decide) ?_
  refine lv_icmp_le (tgt := 56) hx hb d_Mo_append_47 (by decide) (fun c47 => ?_) (fun c47 => absurd ((nI_leI (by omega) (by omega)).mpr (by omega)) c47)
  refine lv_aload_n hx hb d_Mo_append_56 rfl (lv_at hl 0 rfl) ?_
  refine nw_get (D := D) (ci := 5) (C := R_Mo) (T := T_Mo) (N := 16) hx hb hts in_Mo hown hK.k hP (i := 0) (by decide) md_0 rfl 1 (by decide) (hts _ kf_Mo_41) rfl d_Mo_append_57 ?_
  refine lv_if_eq (tgt := 69) hx hb d_Mo_append_60 (by decide) (fun c60 => ?_) (fun c60 => absurd (show bI false = 0 by decide) c60)
  refine lv_aload_n hx hb d_Mo_append_69 rfl (lv_at hl 0 rfl) ?_
  refine nw_get (D := D) (ci := 5) (C := R_Mo) (T := T_Mo) (N := 16) hx hb hts in_Mo hown hK.k hP (i := 0) (by decide) md_0 rfl 3 (by decide) (hts _ kf_Mo_49) rfl d_Mo_append_70 ?_
  refine lv_istore (lv' := [(4, .int (nI tn)), (0, .ref (ad 0)), (1, .int (nI kd)), (2, .int (nI mo)), (3, .int (nI k))]) hx hb d_Mo_append_73 hl (by decide) rfl (fun ls hl => ?_)
  refine lv_aload_n hx hb d_Mo_append_75 rfl (lv_at hl 1 rfl) ?_
  refine lv_iconst (v := nI 0) hx hb d_Mo_append_76 (by decide) ?_
  refine nw_put (D := D) (ci := 5) (C := R_Mo) (T := T_Mo) (N := 16) hx hb hts in_Mo ty_Mo tk_Mo nm_Mo hown hK.k hP hD hS (i := 0) (by decide) md_0 rfl 3 (by decide) (hts _ kf_Mo_49) rfl rfl rfl (Nat.le_of_ble_eq_true rfl) d_Mo_append_77 (fun H locs hP hS hz hq => ?_)
  have hP : nw D vcl PM ad (mdC cy ad 0 false tp 0 w cp cb we be lg co fi bn none ro fo) H := nw_congr hP (mdu_tn)
  refine lv_aload_n hx hb d_Mo_append_80 rfl (lv_at hl 1 rfl) ?_
  refine nw_get (D := D) (ci := 5) (C := R_Mo) (T := T_Mo) (N := 16) hx hb hts in_Mo hown hK.k hP (i := 0) (by decide) md_0 rfl 13 (by decide) (hts _ kf_Mo_30) rfl d_Mo_append_81 ?_
  refine lv_if_lt (tgt := 112) hx hb d_Mo_append_84 (by decide) (fun c84 => ?_) (fun c84 => absurd (show oI none < 0 by decide) c84)
  refine lv_iconst (v := nI 0) hx hb d_Mo_append_112 (by decide) ?_
  refine lv_istore (lv' := [(5, .int (nI 0)), (4, .int (nI tn)), (0, .ref (ad 0)), (1, .int (nI kd)), (2, .int (nI mo)), (3, .int (nI k))]) hx hb d_Mo_append_113 hl (by decide) rfl (fun ls hl => ?_)
  refine lv_iload hx hb d_Mo_append_115 (lv_at hl 0 rfl) ?_
  refine lv_if_ne (tgt := 135) hx hb d_Mo_append_117 (by decide) (fun c117 => absurd (show nI 0 = 0 by decide) c117) (fun c117 => ?_)
  refine lv_aload_n hx hb d_Mo_append_120 rfl (lv_at hl 2 rfl) ?_
  refine call_R (As := []) (rest := []) F hK (c_Mo_blocks l D cy ad 0 0 cp cb bn fo false w tp we be co fi ro lg none) km_Mo_67 ki_Mo_blocks ks_Mo_blocks k0_Mo kc_Mo_blocks kd_Mo_blocks ⟨Nat.le_of_ble_eq_true rfl, Nat.le_of_ble_eq_true rfl⟩ (nw_recv hK.k hP (i := 0) (by decide) md_0 rfl) (hP) (hI) hl.1 rfl (Nat.le_of_ble_eq_true rfl) d_Mo_append_121 ⟨(Nat.le_of_ble_eq_true rfl), (Nat.le_of_ble_eq_true rfl)⟩ hS (fun H1 locs1 hN hS => ?_)
  have hP := hN _ _ _ hP
  generalize H1 = H at hP hS ⊢
  refine lv_bipush (v := nI 24) hx hb d_Mo_append_124 (by decide) ?_
  refine lv_icmp_ne (tgt := 135) hx hb d_Mo_append_126 (by decide) (fun c126 => ?_) (fun c126 => absurd ((nI_eq (by omega) (by omega)).mp c126) h24)
  refine lv_iload hx hb d_Mo_append_135 (lv_at hl 0 rfl) ?_
  refine lv_if_ne (tgt := 153) hx hb d_Mo_append_137 (by decide) (fun c137 => absurd (show nI 0 = 0 by decide) c137) (fun c137 => ?_)
  refine lv_aload_n hx hb d_Mo_append_140 rfl (lv_at hl 2 rfl) ?_
  refine call_I (As := []) (rest := []) F hK (hT) km_Mo_71 ki_Mo_take ks_Mo_take k0_Mo kc_Mo_take kd_Mo_take ⟨Nat.le_of_ble_eq_true rfl, Nat.le_of_ble_eq_true rfl⟩ (nw_recv hK.k hP (i := 0) (by decide) md_0 rfl) (hP) (hI) hl.1 rfl (Nat.le_of_ble_eq_true rfl) d_Mo_append_141 ⟨(Nat.le_of_ble_eq_true rfl), (Nat.le_of_ble_eq_true rfl)⟩ hS (na_le hS) (fun H1 locs1 hP1 hk1 hS => ?_)
  have hP : nw D vcl PM ad (mdC cy ad 0 false tp 0 w2 cp2 cb we2 be2 lg2 co2 fi2 bn2 (some b2) ro fo) H1 := hP1
  generalize H1 = H at hP hS ⊢
  refine lv_if_ne (tgt := 153) hx hb d_Mo_append_144 (by decide) (fun c144 => ?_) (fun c144 => absurd c144 (by decide))
  refine lv_aload_n hx hb d_Mo_append_153 rfl (lv_at hl 2 rfl) ?_
  refine lv_bipush (v := nI 9) hx hb d_Mo_append_154 (by decide) ?_
  refine lv_iload hx hb d_Mo_append_156 (lv_at hl 1 rfl) ?_
  refine lv_iadd hx hb d_Mo_append_158 ?_
  refine lv_eqi (nI_add _ _) ?_
  refine call_I (As := [.int (nI (9 + tn))]) (rest := []) F hK (c_Mo_partT l D cy ad 0 0 cp2 cb bn2 fo false w2 tp we2 be2 co2 fi2 ro lg2 (some b2) (9 + tn) (by omega) (by omega) hcb hcp hdn) km_Mo_61 ki_Mo_part ks_Mo_part k0_Mo kc_Mo_part kd_Mo_part ⟨Nat.le_of_ble_eq_true rfl, Nat.le_of_ble_eq_true rfl⟩ (nw_recv hK.k hP (i := 0) (by decide) md_0 rfl) (hP) (hI) hl.1 rfl (Nat.le_of_ble_eq_true rfl) d_Mo_append_159 ⟨(Nat.le_of_ble_eq_true rfl), (Nat.le_of_ble_eq_true rfl)⟩ hS (na_le hS) (fun H1 locs1 hP1 hk1 hS => ?_)
  have hP : nw D vcl PM ad (mdC cy ad 0 false tp 0 (cutW w2 cp2) (cutP w2 cp2) cb we2 be2 lg2 co2 fi2 bn2 (some b2) ro fo) H1 := hP1
  generalize H1 = H at hP hS ⊢
  refine lv_bipush (v := nI 9) hx hb d_Mo_append_162 (by decide) ?_
  refine lv_iload hx hb d_Mo_append_164 (lv_at hl 1 rfl) ?_
  refine lv_iadd hx hb d_Mo_append_166 ?_
  refine lv_eqi (nI_add _ _) ?_
  refine lv_icmp_ge (tgt := 176) hx hb d_Mo_append_167 (by decide) (fun c167 => ?_) (fun c167 => absurd ((nI_leI (by omega) (by omega)).mpr (by omega)) c167)
  refine lv_sipush (v := nI 2040) hx hb d_Mo_append_176 (by decide) ?_
  refine lv_aload_n hx hb d_Mo_append_179 rfl (lv_at hl 2 rfl) ?_
  refine nw_get (D := D) (ci := 5) (C := R_Mo) (T := T_Mo) (N := 16) hx hb hts in_Mo hown hK.k hP (i := 0) (by decide) md_0 rfl 13 (by decide) (hts _ kf_Mo_30) rfl d_Mo_append_180 ?_
  refine lv_eqi (y := nI b2) rfl ?_
  refine lv_imul hx hb d_Mo_append_183 ?_
  refine lv_eqi (pk_mul _ _) ?_
  refine lv_aload_n hx hb d_Mo_append_184 rfl (lv_at hl 2 rfl) ?_
  refine nw_get (D := D) (ci := 5) (C := R_Mo) (T := T_Mo) (N := 16) hx hb hts in_Mo hown hK.k hP (i := 0) (by decide) md_0 rfl 11 (by decide) (hts _ kf_Mo_27) rfl d_Mo_append_185 ?_
  refine lv_aload_n hx hb d_Mo_append_188 rfl (lv_at hl 2 rfl) ?_
  refine nw_get (D := D) (ci := 5) (C := R_Mo) (T := T_Mo) (N := 16) hx hb hts in_Mo hown hK.k hP (i := 0) (by decide) md_0 rfl 13 (by decide) (hts _ kf_Mo_30) rfl d_Mo_append_189 ?_
  refine lv_eqi (y := nI b2) rfl ?_
  refine nw_iald hx hb hK.k hP (i := 6) (by decide) md_6 1 rfl (vp_in_nI (by omega) (by omega)) d_Mo_append_192 ?_
  refine lv_eqi (y := nI (fi2 b2)) (by rw [nI_clamp (by omega)]) ?_
  refine lv_iadd hx hb d_Mo_append_193 ?_
  refine lv_eqi (nI_add _ _) ?_
  rw [ha]
  refine lv_istore (lv' := [(6, .int (nI a)), (5, .int (nI 0)), (4, .int (nI tn)), (0, .ref (ad 0)), (1, .int (nI kd)), (2, .int (nI mo)), (3, .int (nI k))]) hx hb d_Mo_append_194 hl (by decide) rfl (fun ls hl => ?_)
  refine lv_aload_n hx hb d_Mo_append_196 rfl (lv_at hl 3 rfl) ?_
  refine nw_get (D := D) (ci := 5) (C := R_Mo) (T := T_Mo) (N := 16) hx hb hts in_Mo hown hK.k hP (i := 0) (by decide) md_0 rfl 14 (by decide) (hts _ kf_Mo_35) rfl d_Mo_append_197 ?_
  refine lv_iload hx hb d_Mo_append_200 (lv_at hl 0 rfl) ?_
  refine lv_iload_n hx hb d_Mo_append_202 rfl (lv_at hl 4 rfl) ?_
  refine lv_i2b hx hb d_Mo_append_203 rfl ?_
  refine nw_bast hx hb hK.k hP hD hS (i := 7) (by decide) md_7 0 rfl (vp_in_nI (by omega) (by omega)) d_Mo_append_204 (fun H locs hP hS hz hq => ?_)
  rw [nI_clamp (by omega), sb_na, show bof (nI kd) = kd by rw [bof_nI (by omega)]; omega, by_upd] at hP
  have hP : nw D vcl PM ad (mdC cy ad 0 false tp 0 (cutW w2 cp2) (cutP w2 cp2) cb we2 be2 lg2 co2 fi2 bn2 (some b2) (va_up ro a kd) fo) H := nw_congr hP (mdu_ro)
  refine lv_aload_n hx hb d_Mo_append_205 rfl (lv_at hl 3 rfl) ?_
  refine nw_get (D := D) (ci := 5) (C := R_Mo) (T := T_Mo) (N := 16) hx hb hts in_Mo hown hK.k hP (i := 0) (by decide) md_0 rfl 14 (by decide) (hts _ kf_Mo_35) rfl d_Mo_append_206 ?_
  refine lv_iload hx hb d_Mo_append_209 (lv_at hl 0 rfl) ?_
  refine lv_iconst (v := nI 1) hx hb d_Mo_append_211 (by decide) ?_
  refine lv_iadd hx hb d_Mo_append_212 ?_
  refine lv_eqi (nI_add _ _) ?_
  refine lv_iload_n hx hb d_Mo_append_213 rfl (lv_at hl 6 rfl) ?_
  refine lv_i2b hx hb d_Mo_append_214 rfl ?_
  refine nw_bast hx hb hK.k hP hD hS (i := 7) (by decide) md_7 0 rfl (vp_in_nI (by omega) (by omega)) d_Mo_append_215 (fun H locs hP hS hz hq => ?_)
  rw [nI_clamp (by omega), sb_na, show bof (nI k) = k by rw [bof_nI (by omega)]; omega, by_upd] at hP
  have hP : nw D vcl PM ad (mdC cy ad 0 false tp 0 (cutW w2 cp2) (cutP w2 cp2) cb we2 be2 lg2 co2 fi2 bn2 (some b2) (va_up (va_up ro a kd) (a + 1) k) fo) H := nw_congr hP (mdu_ro)
  refine lv_aload_n hx hb d_Mo_append_216 rfl (lv_at hl 3 rfl) ?_
  refine nw_get (D := D) (ci := 5) (C := R_Mo) (T := T_Mo) (N := 16) hx hb hts in_Mo hown hK.k hP (i := 0) (by decide) md_0 rfl 14 (by decide) (hts _ kf_Mo_35) rfl d_Mo_append_217 ?_
  refine lv_iload hx hb d_Mo_append_220 (lv_at hl 0 rfl) ?_
  refine lv_iconst (v := nI 2) hx hb d_Mo_append_222 (by decide) ?_
  refine lv_iadd hx hb d_Mo_append_223 ?_
  refine lv_eqi (nI_add _ _) ?_
  refine lv_iload hx hb d_Mo_append_224 (lv_at hl 2 rfl) ?_
  refine lv_iload_n hx hb d_Mo_append_226 rfl (lv_at hl 6 rfl) ?_
  refine lv_isub hx hb d_Mo_append_227 ?_
  refine lv_eqi (pk_sub (by omega)) ?_
  refine lv_sipush (v := nI 256) hx hb d_Mo_append_228 (by decide) ?_
  refine lv_idiv hx hb d_Mo_append_231 (by decide) ?_
  refine lv_eqi (pk_div (by omega) (by omega) (by omega)) ?_
  refine lv_i2b hx hb d_Mo_append_232 rfl ?_
  refine nw_bast hx hb hK.k hP hD hS (i := 7) (by decide) md_7 0 rfl (vp_in_nI (by omega) (by omega)) d_Mo_append_233 (fun H locs hP hS hz hq => ?_)
  rw [nI_clamp (by omega), sb_na, show bof (nI ((tn - k) / 256)) = (tn - k) / 256 by rw [bof_nI (by omega)]; omega, by_upd] at hP
  have hP : nw D vcl PM ad (mdC cy ad 0 false tp 0 (cutW w2 cp2) (cutP w2 cp2) cb we2 be2 lg2 co2 fi2 bn2 (some b2) (va_up (va_up (va_up ro a kd) (a + 1) k) (a + 2) ((tn - k) / 256)) fo) H := nw_congr hP (mdu_ro)
  refine lv_aload_n hx hb d_Mo_append_234 rfl (lv_at hl 3 rfl) ?_
  refine nw_get (D := D) (ci := 5) (C := R_Mo) (T := T_Mo) (N := 16) hx hb hts in_Mo hown hK.k hP (i := 0) (by decide) md_0 rfl 14 (by decide) (hts _ kf_Mo_35) rfl d_Mo_append_235 ?_
  refine lv_iload hx hb d_Mo_append_238 (lv_at hl 0 rfl) ?_
  refine lv_iconst (v := nI 3) hx hb d_Mo_append_240 (by decide) ?_
  refine lv_iadd hx hb d_Mo_append_241 ?_
  refine lv_eqi (nI_add _ _) ?_
  refine lv_iload hx hb d_Mo_append_242 (lv_at hl 2 rfl) ?_
  refine lv_iload_n hx hb d_Mo_append_244 rfl (lv_at hl 6 rfl) ?_
  refine lv_isub hx hb d_Mo_append_245 ?_
  refine lv_eqi (pk_sub (by omega)) ?_
  refine lv_i2b hx hb d_Mo_append_246 rfl ?_
  refine nw_bast hx hb hK.k hP hD hS (i := 7) (by decide) md_7 0 rfl (vp_in_nI (by omega) (by omega)) d_Mo_append_247 (fun H locs hP hS hz hq => ?_)
  rw [nI_clamp (by omega), sb_na, show bof (nI (tn - k)) = (tn - k) % 256 from bof_nI (by omega), by_upd] at hP
  have hP : nw D vcl PM ad (mdC cy ad 0 false tp 0 (cutW w2 cp2) (cutP w2 cp2) cb we2 be2 lg2 co2 fi2 bn2 (some b2) (mRH ro a kd k tn) fo) H := nw_congr hP (mdu_ro)
  refine lv_iconst (v := nI 0) hx hb d_Mo_append_248 (by decide) ?_
  refine lv_istore (lv' := [(7, .int (nI 0)), (6, .int (nI a)), (5, .int (nI 0)), (4, .int (nI tn)), (0, .ref (ad 0)), (1, .int (nI kd)), (2, .int (nI mo)), (3, .int (nI k))]) hx hb d_Mo_append_249 hl (by decide) rfl (fun ls hl => ?_)
  have fin : ∀ (H : Heap) (locs : List Loc) (ls : Array Slot), nw D vcl PM ad (mdC cy ad 0 false tp 0 (cutW w2 cp2) (cutP w2 cp2) cb we2 be2 lg2 co2 fi2 bn2 (some b2) (mRB ro a kd mo k tn tp) fo) H → va_S (na PM ad s.heap.size) s.heap H locs → lv_has ls 8 [(6, .int (nI a)), (5, .int (nI 0)), (4, .int (nI tn)), (0, .ref (ad 0)), (1, .int (nI kd)), (2, .int (nI mo)), (3, .int (nI k))] → W p l e RM s m [.ref (ad 0), .int (nI kd), .int (nI mo), .int (nI k)].toArray below meth c H locs 0 0 (MQ below (va_Qi (fun r' (_ : Unit) => r' = nI (co2 b2 + 1)) (fun _ t => nw D vcl PM ad (mdC cy ad 0 false tp 0 (cutW w2 cp2) (cutP w2 cp2) cb we2 be2 lg2 (va_up co2 b2 (co2 b2 + 1)) (va_up fi2 b2 (fi2 b2 + (9 + tn))) bn2 (some b2) (mRB ro a kd mo k tn tp) fo) t.heap) (na PM ad s.heap.size)) [.ref (ad 0), .int (nI kd), .int (nI mo), .int (nI k)].toArray s 0 0 (na PM ad s.heap.size)) (F0 m 322 ls []) := by
    intro H locs ls hP hS hl
    refine lv_aload_n hx hb d_Mo_append_322 rfl (lv_at hl 3 rfl) ?_
    refine nw_get (D := D) (ci := 5) (C := R_Mo) (T := T_Mo) (N := 16) hx hb hts in_Mo hown hK.k hP (i := 0) (by decide) md_0 rfl 11 (by decide) (hts _ kf_Mo_27) rfl d_Mo_append_323 ?_
    refine lv_aload_n hx hb d_Mo_append_326 rfl (lv_at hl 3 rfl) ?_
    refine nw_get (D := D) (ci := 5) (C := R_Mo) (T := T_Mo) (N := 16) hx hb hts in_Mo hown hK.k hP (i := 0) (by decide) md_0 rfl 13 (by decide) (hts _ kf_Mo_30) rfl d_Mo_append_327 ?_
    refine lv_eqi (y := nI b2) rfl ?_
    refine lv_dup2_11 hx hb d_Mo_append_330 rfl rfl ?_
    refine nw_iald hx hb hK.k hP (i := 6) (by decide) md_6 1 rfl (vp_in_nI (by omega) (by omega)) d_Mo_append_331 ?_
    refine lv_eqi (y := nI (fi2 b2)) (by rw [nI_clamp (by omega)]) ?_
    refine lv_bipush (v := nI 9) hx hb d_Mo_append_332 (by decide) ?_
    refine lv_iload hx hb d_Mo_append_334 (lv_at hl 2 rfl) ?_
    refine lv_iadd hx hb d_Mo_append_336 ?_
    refine lv_eqi (nI_add _ _) ?_
    refine lv_iadd hx hb d_Mo_append_337 ?_
    refine lv_eqi (nI_add _ _) ?_
    refine nw_iast hx hb hK.k hP hD hS (i := 6) (by decide) md_6 1 rfl (vp_in_nI (by omega) (by omega)) d_Mo_append_338 (fun H locs hP hS hz hq => ?_)
    rw [nI_clamp (by omega), in_upd] at hP
    have hP : nw D vcl PM ad (mdC cy ad 0 false tp 0 (cutW w2 cp2) (cutP w2 cp2) cb we2 be2 lg2 co2 (va_up fi2 b2 (fi2 b2 + (9 + tn))) bn2 (some b2) (mRB ro a kd mo k tn tp) fo) H := nw_congr hP (mdu_fi)
    refine lv_aload_n hx hb d_Mo_append_339 rfl (lv_at hl 3 rfl) ?_
    refine nw_get (D := D) (ci := 5) (C := R_Mo) (T := T_Mo) (N := 16) hx hb hts in_Mo hown hK.k hP (i := 0) (by decide) md_0 rfl 10 (by decide) (hts _ kf_Mo_24) rfl d_Mo_append_340 ?_
    refine lv_aload_n hx hb d_Mo_append_343 rfl (lv_at hl 3 rfl) ?_
    refine nw_get (D := D) (ci := 5) (C := R_Mo) (T := T_Mo) (N := 16) hx hb hts in_Mo hown hK.k hP (i := 0) (by decide) md_0 rfl 13 (by decide) (hts _ kf_Mo_30) rfl d_Mo_append_344 ?_
    refine lv_eqi (y := nI b2) rfl ?_
    refine lv_dup2_11 hx hb d_Mo_append_347 rfl rfl ?_
    refine nw_iald hx hb hK.k hP (i := 5) (by decide) md_5 1 rfl (vp_in_nI (by omega) (by omega)) d_Mo_append_348 ?_
    refine lv_eqi (y := nI (co2 b2)) (by rw [nI_clamp (by omega)]) ?_
    refine lv_iconst (v := nI 1) hx hb d_Mo_append_349 (by decide) ?_
    refine lv_iadd hx hb d_Mo_append_350 ?_
    refine lv_eqi (nI_add _ _) ?_
    refine nw_iast hx hb hK.k hP hD hS (i := 5) (by decide) md_5 1 rfl (vp_in_nI (by omega) (by omega)) d_Mo_append_351 (fun H locs hP hS hz hq => ?_)
    rw [nI_clamp (by omega), in_upd] at hP
    have hP : nw D vcl PM ad (mdC cy ad 0 false tp 0 (cutW w2 cp2) (cutP w2 cp2) cb we2 be2 lg2 (va_up co2 b2 (co2 b2 + 1)) (va_up fi2 b2 (fi2 b2 + (9 + tn))) bn2 (some b2) (mRB ro a kd mo k tn tp) fo) H := nw_congr hP (mdu_co)
    refine lv_aload_n hx hb d_Mo_append_352 rfl (lv_at hl 3 rfl) ?_
    refine nw_get (D := D) (ci := 5) (C := R_Mo) (T := T_Mo) (N := 16) hx hb hts in_Mo hown hK.k hP (i := 0) (by decide) md_0 rfl 10 (by decide) (hts _ kf_Mo_24) rfl d_Mo_append_353 ?_
    refine lv_aload_n hx hb d_Mo_append_356 rfl (lv_at hl 3 rfl) ?_
    refine nw_get (D := D) (ci := 5) (C := R_Mo) (T := T_Mo) (N := 16) hx hb hts in_Mo hown hK.k hP (i := 0) (by decide) md_0 rfl 13 (by decide) (hts _ kf_Mo_30) rfl d_Mo_append_357 ?_
    refine lv_eqi (y := nI b2) rfl ?_
    refine nw_iald hx hb hK.k hP (i := 5) (by decide) md_5 1 rfl (vp_in_nI (by omega) (by omega)) d_Mo_append_360 ?_
    refine lv_eqi (y := nI ((va_up co2 b2 (co2 b2 + 1)) b2)) (by rw [nI_clamp (by omega)]) ?_
    refine lv_eqi (y := nI (co2 b2 + 1)) (by rw [va_up_self]) ?_
    exact end_I F hr hlk rfl hP hS d_Mo_append_361
  have lp2 : ∀ (d u : Nat), u + d = tn → ∀ (H : Heap) (locs : List Loc) (ls : Array Slot), nw D vcl PM ad (mdC cy ad 0 false tp 0 (cutW w2 cp2) (cutP w2 cp2) cb we2 be2 lg2 co2 fi2 bn2 (some b2) (upN (mRM ro a kd mo k tn) (a + 9) tp u) fo) H → va_S (na PM ad s.heap.size) s.heap H locs → lv_has ls 8 [(7, .int (nI u)), (6, .int (nI a)), (5, .int (nI 0)), (4, .int (nI tn)), (0, .ref (ad 0)), (1, .int (nI kd)), (2, .int (nI mo)), (3, .int (nI k))] → W p l e RM s m [.ref (ad 0), .int (nI kd), .int (nI mo), .int (nI k)].toArray below meth c H locs 0 0 (MQ below (va_Qi (fun r' (_ : Unit) => r' = nI (co2 b2 + 1)) (fun _ t => nw D vcl PM ad (mdC cy ad 0 false tp 0 (cutW w2 cp2) (cutP w2 cp2) cb we2 be2 lg2 (va_up co2 b2 (co2 b2 + 1)) (va_up fi2 b2 (fi2 b2 + (9 + tn))) bn2 (some b2) (mRB ro a kd mo k tn tp) fo) t.heap) (na PM ad s.heap.size)) [.ref (ad 0), .int (nI kd), .int (nI mo), .int (nI k)].toArray s 0 0 (na PM ad s.heap.size)) (F0 m 289 ls []) := by
    intro d
    induction d with
    | zero =>
      intro u hu H locs ls hP hS hl
      obtain rfl : u = tn := by omega
      refine lv_iload hx hb d_Mo_append_289 (lv_at hl 0 rfl) ?_
      refine lv_iload hx hb d_Mo_append_291 (lv_at hl 3 rfl) ?_
      refine lv_icmp_ge (tgt := 322) hx hb d_Mo_append_293 (by decide) (fun c293 => ?_) (fun c293 => absurd ((nI_leI (by omega) (by omega)).mpr (by omega)) c293)
      exact fin _ _ _ hP hS (lv_sub hl [1, 2, 3, 4, 5, 6, 7] rfl)
    | succ d ihd =>
      intro u hu H locs ls hP hS hl
      refine lv_iload hx hb d_Mo_append_289 (lv_at hl 0 rfl) ?_
      refine lv_iload hx hb d_Mo_append_291 (lv_at hl 3 rfl) ?_
      refine lv_icmp_ge (tgt := 322) hx hb d_Mo_append_293 (by decide) (fun c293 => absurd c293 (fun z => absurd ((nI_leI (by omega) (by omega)).mp z) (by omega))) (fun c293 => ?_)
      refine lv_aload_n hx hb d_Mo_append_296 rfl (lv_at hl 4 rfl) ?_
      refine nw_get (D := D) (ci := 5) (C := R_Mo) (T := T_Mo) (N := 16) hx hb hts in_Mo hown hK.k hP (i := 0) (by decide) md_0 rfl 14 (by decide) (hts _ kf_Mo_35) rfl d_Mo_append_297 ?_
      refine lv_iload hx hb d_Mo_append_300 (lv_at hl 1 rfl) ?_
      refine lv_bipush (v := nI 9) hx hb d_Mo_append_302 (by decide) ?_
      refine lv_iadd hx hb d_Mo_append_304 ?_
      refine lv_eqi (nI_add _ _) ?_
      refine lv_iload hx hb d_Mo_append_305 (lv_at hl 0 rfl) ?_
      refine lv_iadd hx hb d_Mo_append_307 ?_
      refine lv_eqi (nI_add _ _) ?_
      refine lv_aload_n hx hb d_Mo_append_308 rfl (lv_at hl 4 rfl) ?_
      refine nw_get (D := D) (ci := 5) (C := R_Mo) (T := T_Mo) (N := 16) hx hb hts in_Mo hown hK.k hP (i := 0) (by decide) md_0 rfl 2 (by decide) (hts _ kf_Mo_7) rfl d_Mo_append_309 ?_
      refine lv_iload hx hb d_Mo_append_312 (lv_at hl 0 rfl) ?_
      refine nw_bald hx hb hK.k hP (i := 1) (by decide) md_1 0 rfl (vp_in_nI (by omega) (by omega)) d_Mo_append_314 ?_
      refine lv_eqi (y := sb_b (tp u)) (by rw [nI_clamp (by omega)]) ?_
      refine nw_bast hx hb hK.k hP hD hS (i := 7) (by decide) md_7 0 rfl (vp_in_nI (by omega) (by omega)) d_Mo_append_315 (fun H locs hP hS hz hq => ?_)
      rw [nI_clamp (by omega), sb_nb, by_upd] at hP
      have hP : nw D vcl PM ad (mdC cy ad 0 false tp 0 (cutW w2 cp2) (cutP w2 cp2) cb we2 be2 lg2 co2 fi2 bn2 (some b2) (upN (mRM ro a kd mo k tn) (a + 9) tp (u + 1)) fo) H := nw_congr hP (mdu_ro)
      refine lv_iinc (v := nI (u + 1)) (lv' := [(7, .int (nI (u + 1))), (6, .int (nI a)), (5, .int (nI 0)), (4, .int (nI tn)), (0, .ref (ad 0)), (1, .int (nI kd)), (2, .int (nI mo)), (3, .int (nI k))]) hx hb d_Mo_append_316 hl (k := 0) rfl (nI_inc _) (by decide) rfl (fun ls hl => ?_)
      refine lv_goto (tgt := 289) hx hb d_Mo_append_319 (by decide) ?_
      exact ihd (u + 1) (by omega) _ _ _ hP hS (lv_sub hl [0, 1, 2, 3, 4, 5, 6, 7] rfl)
  have lp1 : ∀ (d u : Nat), u + d = 4 → ∀ (H : Heap) (locs : List Loc) (ls : Array Slot), nw D vcl PM ad (mdC cy ad 0 false tp 0 (cutW w2 cp2) (cutP w2 cp2) cb we2 be2 lg2 co2 fi2 bn2 (some b2) (upN (mRH ro a kd k tn) (a + 4) (fun i => nb (nI mo) (3 - i)) u) fo) H → va_S (na PM ad s.heap.size) s.heap H locs → lv_has ls 8 [(7, .int (nI u)), (6, .int (nI a)), (5, .int (nI 0)), (4, .int (nI tn)), (0, .ref (ad 0)), (1, .int (nI kd)), (2, .int (nI mo)), (3, .int (nI k))] → W p l e RM s m [.ref (ad 0), .int (nI kd), .int (nI mo), .int (nI k)].toArray below meth c H locs 0 0 (MQ below (va_Qi (fun r' (_ : Unit) => r' = nI (co2 b2 + 1)) (fun _ t => nw D vcl PM ad (mdC cy ad 0 false tp 0 (cutW w2 cp2) (cutP w2 cp2) cb we2 be2 lg2 (va_up co2 b2 (co2 b2 + 1)) (va_up fi2 b2 (fi2 b2 + (9 + tn))) bn2 (some b2) (mRB ro a kd mo k tn tp) fo) t.heap) (na PM ad s.heap.size)) [.ref (ad 0), .int (nI kd), .int (nI mo), .int (nI k)].toArray s 0 0 (na PM ad s.heap.size)) (F0 m 251 ls []) := by
    intro d
    induction d with
    | zero =>
      intro u hu H locs ls hP hS hl
      obtain rfl : u = 4 := by omega
      refine lv_iload hx hb d_Mo_append_251 (lv_at hl 0 rfl) ?_
      refine lv_iconst (v := nI 4) hx hb d_Mo_append_253 (by decide) ?_
      refine lv_icmp_ge (tgt := 286) hx hb d_Mo_append_254 (by decide) (fun c254 => ?_) (fun c254 => absurd ((nI_leI (by omega) (by omega)).mpr (by omega)) c254)
      refine lv_iconst (v := nI 0) hx hb d_Mo_append_286 (by decide) ?_
      refine lv_istore (lv' := [(7, .int (nI 0)), (6, .int (nI a)), (5, .int (nI 0)), (4, .int (nI tn)), (0, .ref (ad 0)), (1, .int (nI kd)), (2, .int (nI mo)), (3, .int (nI k))]) hx hb d_Mo_append_287 hl (by decide) rfl (fun ls hl => ?_)
      exact lp2 tn 0 (by omega) _ _ _ hP hS (lv_sub hl [0, 1, 2, 3, 4, 5, 6, 7] rfl)
    | succ d ihd =>
      intro u hu H locs ls hP hS hl
      refine lv_iload hx hb d_Mo_append_251 (lv_at hl 0 rfl) ?_
      refine lv_iconst (v := nI 4) hx hb d_Mo_append_253 (by decide) ?_
      refine lv_icmp_ge (tgt := 286) hx hb d_Mo_append_254 (by decide) (fun c254 => absurd c254 (fun z => absurd ((nI_leI (by omega) (by omega)).mp z) (by omega))) (fun c254 => ?_)
      refine lv_aload_n hx hb d_Mo_append_257 rfl (lv_at hl 4 rfl) ?_
      refine nw_get (D := D) (ci := 5) (C := R_Mo) (T := T_Mo) (N := 16) hx hb hts in_Mo hown hK.k hP (i := 0) (by decide) md_0 rfl 14 (by decide) (hts _ kf_Mo_35) rfl d_Mo_append_258 ?_
      refine lv_iload hx hb d_Mo_append_261 (lv_at hl 1 rfl) ?_
      refine lv_iconst (v := nI 4) hx hb d_Mo_append_263 (by decide) ?_
      refine lv_iadd hx hb d_Mo_append_264 ?_
      refine lv_eqi (nI_add _ _) ?_
      refine lv_iload hx hb d_Mo_append_265 (lv_at hl 0 rfl) ?_
      refine lv_iadd hx hb d_Mo_append_267 ?_
      refine lv_eqi (nI_add _ _) ?_
      refine lv_iload_n hx hb d_Mo_append_268 rfl (lv_at hl 6 rfl) ?_
      refine lv_bipush (v := nI 24) hx hb d_Mo_append_269 (by decide) ?_
      refine lv_bipush (v := nI 8) hx hb d_Mo_append_271 (by decide) ?_
      refine lv_iload hx hb d_Mo_append_273 (lv_at hl 0 rfl) ?_
      refine lv_imul hx hb d_Mo_append_275 ?_
      refine lv_eqi (pk_mul _ _) ?_
      refine lv_isub hx hb d_Mo_append_276 ?_
      refine lv_eqi (pk_sub (by omega)) ?_
      refine lv_ishr hx hb d_Mo_append_277 ?_
      refine lv_i2b hx hb d_Mo_append_278 rfl ?_
      refine nw_bast hx hb hK.k hP hD hS (i := 7) (by decide) md_7 0 rfl (vp_in_nI (by omega) (by omega)) d_Mo_append_279 (fun H locs hP hS hz hq => ?_)
      rw [nI_clamp (by omega), sb_na, bof_sh _ (by omega), by_upd] at hP
      have hP : nw D vcl PM ad (mdC cy ad 0 false tp 0 (cutW w2 cp2) (cutP w2 cp2) cb we2 be2 lg2 co2 fi2 bn2 (some b2) (upN (mRH ro a kd k tn) (a + 4) (fun i => nb (nI mo) (3 - i)) (u + 1)) fo) H := nw_congr hP (mdu_ro)
      refine lv_iinc (v := nI (u + 1)) (lv' := [(7, .int (nI (u + 1))), (6, .int (nI a)), (5, .int (nI 0)), (4, .int (nI tn)), (0, .ref (ad 0)), (1, .int (nI kd)), (2, .int (nI mo)), (3, .int (nI k))]) hx hb d_Mo_append_280 hl (k := 0) rfl (nI_inc _) (by decide) rfl (fun ls hl => ?_)
      refine lv_goto (tgt := 251) hx hb d_Mo_append_283 (by decide) ?_
      exact ihd (u + 1) (by omega) _ _ _ hP hS (lv_sub hl [0, 1, 2, 3, 4, 5, 6, 7] rfl)
  exact lp1 4 0 (by omega) _ _ _ hP hS (lv_sub hl [0, 1, 2, 3, 4, 5, 6, 7] rfl)
set_option maxRecDepth 100000 in
set_option maxHeartbeats 4000000 in
theorem c_Mo_append7s (l : Launch) (D : va_G) (cy : Nat → ClassId) (ad : Nat → Nat) (fl tn cp cb bn fo : Nat) (dn w : Bool) (tp we be co fi ro : Nat → Nat) (lg : Nat → Bool) (op : Option Nat) (kd mo k : Nat) (hkd1 : 1 ≤ kd) (hkd2 : kd ≤ 15) (hmo : mo < 2 ^ 31) (hk : k ≤ 45) (hkt : k ≤ tn) (htk : tn ≤ k + 1000) (b : Nat) (hb24 : b < 24) (HQ : ∀ b, b < 24 → fi b ≤ 2040 ∧ co b < 2 ^ 16) (hroom : 2040 < fi b + 9 + tn) (h24 : cntL lg 24 ≠ 24) (cp2 bn2 : Nat) (w2 : Bool) (we2 be2 co2 fi2 : Nat → Nat) (lg2 : Nat → Bool) (dn2 : Bool) (op2 : Option Nat) (hT : mtI l y_Mo_take b_Mo_take 3 (some .boolean) { frames := 1, cells := 0, slots := 0, locals := 21 } D cy [.ref (ad 0)] PM ad (mdC cy ad 0 false tp 0 w cp cb we be lg co fi bn (some b) ro fo) (mdC cy ad 0 dn2 tp 0 w2 cp2 cb we2 be2 lg2 co2 fi2 bn2 op2 ro fo) (bI false)) : mtI l y_Mo_append b_Mo_append 8 (some .int) RM D cy [.ref (ad 0), .int (nI kd), .int (nI mo), .int (nI k)] PM ad (mdC cy ad fl false tp tn w cp cb we be lg co fi bn (some b) ro fo) (mdC cy ad 2 dn2 tp 0 w2 cp2 cb we2 be2 lg2 co2 fi2 bn2 op2 ro fo) (nI 0) := by
  intro sz
  refine nm_ofW (cc := b_Mo_append) (maxL := 8) (ret := (some .int)) (own := R_Mo) (by decide) (Nat.le_of_ble_eq_true rfl) rfl ?_
  intro p e s m below meth c ls F hr hlk hnm hv hl
  obtain ⟨hx, hb, hml, hown, hts⟩ := id F
  obtain ⟨rfl, hP, hK, hI⟩ := hv
  have hD : nd (na PM ad s.heap.size) PM ad := nd_self hI
  have hA : ∀ q, s.heap.size ≤ q → na PM ad s.heap.size q := fun q h => Or.inr h
  have hS : va_S (na PM ad s.heap.size) s.heap s.heap [] := va_S.rf
  have hl : lv_has ls 8 [(0, .ref (ad 0)), (1, .int (nI kd)), (2, .int (nI mo)), (3, .int (nI k))] := hl
  have hq0 := HQ b hb24
  have hcl := cntL_le lg 24
  refine lv_aload_n hx hb d_Mo_append_0 rfl (lv_at hl 0 rfl) ?_
  refine lv_iconst (v := nI 0) hx hb d_Mo_append_1 (by decide) ?_
  refine nw_put (D := D) (ci := 5) (C := R_Mo) (T := T_Mo) (N := 16) hx hb hts in_Mo ty_Mo tk_Mo nm_Mo hown hK.k hP hD hS (i := 0) (by decide) md_0 rfl 0 (by decide) (hts _ kf_Mo_38) rfl rfl rfl (Nat.le_of_ble_eq_true rfl) d_Mo_append_2 (fun H locs hP hS hz hq => ?_)
  have hP : nw D vcl PM ad (mdC cy ad 0 false tp tn w cp cb we be lg co fi bn (some b) ro fo) H := nw_congr hP (mdu_fl)
  refine lv_iload_n hx hb d_Mo_append_5 rfl (lv_at hl 1 rfl) ?_
  refine lv_iconst (v := nI 1) hx hb d_Mo_append_6 (by decide) ?_
  refine lv_icmp_lt (tgt := 50) hx hb d_Mo_append_7 (by decide) (fun c7 => absurd c7 (fun z => absurd ((nI_ltI (by omega) (by omega)).mp z) (by omega))) (fun c7 => ?_)
  refine lv_iload_n hx hb d_Mo_append_10 rfl (lv_at hl 1 rfl) ?_
  refine lv_bipush (v := nI 15) hx hb d_Mo_append_11 (by decide) ?_
  refine lv_icmp_gt (tgt := 50) hx hb d_Mo_append_13 (by decide) (fun c13 => absurd c13 (fun z => absurd ((nI_ltI (by omega) (by omega)).mp z) (by omega))) (fun c13 => ?_)
  refine lv_iload_n hx hb d_Mo_append_16 rfl (lv_at hl 2 rfl) ?_
  refine lv_if_lt (tgt := 50) hx hb d_Mo_append_17 (by decide) (fun c17 => absurd c17 (nI_pos (by omega))) (fun c17 => ?_)
  refine lv_iload_n hx hb d_Mo_append_20 rfl (lv_at hl 3 rfl) ?_
  refine lv_if_lt (tgt := 50) hx hb d_Mo_append_21 (by decide) (fun c21 => absurd c21 (nI_pos (by omega))) (fun c21 => ?_)
  refine lv_iload_n hx hb d_Mo_append_24 rfl (lv_at hl 3 rfl) ?_
  refine lv_bipush (v := nI 45) hx hb d_Mo_append_25 (by decide) ?_
  refine lv_icmp_gt (tgt := 50) hx hb d_Mo_append_27 (by decide) (fun c27 => absurd c27 (fun z => absurd ((nI_ltI (by omega) (by omega)).mp z) (by omega))) (fun c27 => ?_)
  refine lv_aload_n hx hb d_Mo_append_30 rfl (lv_at hl 0 rfl) ?_
  refine nw_get (D := D) (ci := 5) (C := R_Mo) (T := T_Mo) (N := 16) hx hb hts in_Mo hown hK.k hP (i := 0) (by decide) md_0 rfl 3 (by decide) (hts _ kf_Mo_49) rfl d_Mo_append_31 ?_
  refine lv_iload_n hx hb d_Mo_append_34 rfl (lv_at hl 3 rfl) ?_
  refine lv_icmp_lt (tgt := 50) hx hb d_Mo_append_35 (by decide) (fun c35 => absurd c35 (fun z => absurd ((nI_ltI (by omega) (by omega)).mp z) (by omega))) (fun c35 => ?_)
  refine lv_aload_n hx hb d_Mo_append_38 rfl (lv_at hl 0 rfl) ?_
  refine nw_get (D := D) (ci := 5) (C := R_Mo) (T := T_Mo) (N := 16) hx hb hts in_Mo hown hK.k hP (i := 0) (by decide) md_0 rfl 3 (by decide) (hts _ kf_Mo_49) rfl d_Mo_append_39 ?_
  refine lv_iload_n hx hb d_Mo_append_42 rfl (lv_at hl 3 rfl) ?_
  refine lv_isub hx hb d_Mo_append_43 ?_
  refine lv_eqi (pk_sub (by omega)) ?_
  refine lv_sipush (v := nI 1000) hx hb d_Mo_append_44 (by decide) ?_
  refine lv_icmp_le (tgt := 56) hx hb d_Mo_append_47 (by decide) (fun c47 => ?_) (fun c47 => absurd ((nI_leI (by omega) (by omega)).mpr (by omega)) c47)
  refine lv_aload_n hx hb d_Mo_append_56 rfl (lv_at hl 0 rfl) ?_
  refine nw_get (D := D) (ci := 5) (C := R_Mo) (T := T_Mo) (N := 16) hx hb hts in_Mo hown hK.k hP (i := 0) (by decide) md_0 rfl 1 (by decide) (hts _ kf_Mo_41) rfl d_Mo_append_57 ?_
  refine lv_if_eq (tgt := 69) hx hb d_Mo_append_60 (by decide) (fun c60 => ?_) (fun c60 => absurd (show bI false = 0 by decide) c60)
  refine lv_aload_n hx hb d_Mo_append_69 rfl (lv_at hl 0 rfl) ?_
  refine nw_get (D := D) (ci := 5) (C := R_Mo) (T := T_Mo) (N := 16) hx hb hts in_Mo hown hK.k hP (i := 0) (by decide) md_0 rfl 3 (by decide) (hts _ kf_Mo_49) rfl d_Mo_append_70 ?_
  refine lv_istore (lv' := [(4, .int (nI tn)), (0, .ref (ad 0)), (1, .int (nI kd)), (2, .int (nI mo)), (3, .int (nI k))]) hx hb d_Mo_append_73 hl (by decide) rfl (fun ls hl => ?_)
  refine lv_aload_n hx hb d_Mo_append_75 rfl (lv_at hl 1 rfl) ?_
  refine lv_iconst (v := nI 0) hx hb d_Mo_append_76 (by decide) ?_
  refine nw_put (D := D) (ci := 5) (C := R_Mo) (T := T_Mo) (N := 16) hx hb hts in_Mo ty_Mo tk_Mo nm_Mo hown hK.k hP hD hS (i := 0) (by decide) md_0 rfl 3 (by decide) (hts _ kf_Mo_49) rfl rfl rfl (Nat.le_of_ble_eq_true rfl) d_Mo_append_77 (fun H locs hP hS hz hq => ?_)
  have hP : nw D vcl PM ad (mdC cy ad 0 false tp 0 w cp cb we be lg co fi bn (some b) ro fo) H := nw_congr hP (mdu_tn)
  refine lv_aload_n hx hb d_Mo_append_80 rfl (lv_at hl 1 rfl) ?_
  refine nw_get (D := D) (ci := 5) (C := R_Mo) (T := T_Mo) (N := 16) hx hb hts in_Mo hown hK.k hP (i := 0) (by decide) md_0 rfl 13 (by decide) (hts _ kf_Mo_30) rfl d_Mo_append_81 ?_
  refine lv_eqi (y := nI b) rfl ?_
  refine lv_if_lt (tgt := 112) hx hb d_Mo_append_84 (by decide) (fun c84 => absurd c84 (nI_pos (by omega))) (fun c84 => ?_)
  refine lv_aload_n hx hb d_Mo_append_87 rfl (lv_at hl 1 rfl) ?_
  refine nw_get (D := D) (ci := 5) (C := R_Mo) (T := T_Mo) (N := 16) hx hb hts in_Mo hown hK.k hP (i := 0) (by decide) md_0 rfl 11 (by decide) (hts _ kf_Mo_27) rfl d_Mo_append_88 ?_
  refine lv_aload_n hx hb d_Mo_append_91 rfl (lv_at hl 1 rfl) ?_
  refine nw_get (D := D) (ci := 5) (C := R_Mo) (T := T_Mo) (N := 16) hx hb hts in_Mo hown hK.k hP (i := 0) (by decide) md_0 rfl 13 (by decide) (hts _ kf_Mo_30) rfl d_Mo_append_92 ?_
  refine lv_eqi (y := nI b) rfl ?_
  refine nw_iald hx hb hK.k hP (i := 6) (by decide) md_6 1 rfl (vp_in_nI (by omega) (by omega)) d_Mo_append_95 ?_
  refine lv_eqi (y := nI (fi b)) (by rw [nI_clamp (by omega)]) ?_
  refine lv_bipush (v := nI 9) hx hb d_Mo_append_96 (by decide) ?_
  refine lv_iadd hx hb d_Mo_append_98 ?_
  refine lv_eqi (nI_add _ _) ?_
  refine lv_iload hx hb d_Mo_append_99 (lv_at hl 0 rfl) ?_
  refine lv_iadd hx hb d_Mo_append_101 ?_
  refine lv_eqi (nI_add _ _) ?_
  refine lv_sipush (v := nI 2040) hx hb d_Mo_append_102 (by decide) ?_
  refine lv_icmp_gt (tgt := 112) hx hb d_Mo_append_105 (by decide) (fun c105 => ?_) (fun c105 => absurd ((nI_ltI (by omega) (by omega)).mpr (by omega)) c105)
  refine lv_iconst (v := nI 0) hx hb d_Mo_append_112 (by decide) ?_
  refine lv_istore (lv' := [(5, .int (nI 0)), (4, .int (nI tn)), (0, .ref (ad 0)), (1, .int (nI kd)), (2, .int (nI mo)), (3, .int (nI k))]) hx hb d_Mo_append_113 hl (by decide) rfl (fun ls hl => ?_)
  refine lv_iload hx hb d_Mo_append_115 (lv_at hl 0 rfl) ?_
  refine lv_if_ne (tgt := 135) hx hb d_Mo_append_117 (by decide) (fun c117 => absurd (show nI 0 = 0 by decide) c117) (fun c117 => ?_)
  refine lv_aload_n hx hb d_Mo_append_120 rfl (lv_at hl 2 rfl) ?_
  refine call_R (As := []) (rest := []) F hK (c_Mo_blocks l D cy ad 0 0 cp cb bn fo false w tp we be co fi ro lg (some b)) km_Mo_67 ki_Mo_blocks ks_Mo_blocks k0_Mo kc_Mo_blocks kd_Mo_blocks ⟨Nat.le_of_ble_eq_true rfl, Nat.le_of_ble_eq_true rfl⟩ (nw_recv hK.k hP (i := 0) (by decide) md_0 rfl) (hP) (hI) hl.1 rfl (Nat.le_of_ble_eq_true rfl) d_Mo_append_121 ⟨(Nat.le_of_ble_eq_true rfl), (Nat.le_of_ble_eq_true rfl)⟩ hS (fun H1 locs1 hN hS => ?_)
  have hP := hN _ _ _ hP
  generalize H1 = H at hP hS ⊢
  refine lv_bipush (v := nI 24) hx hb d_Mo_append_124 (by decide) ?_
  refine lv_icmp_ne (tgt := 135) hx hb d_Mo_append_126 (by decide) (fun c126 => ?_) (fun c126 => absurd ((nI_eq (by omega) (by omega)).mp c126) h24)
  refine lv_iload hx hb d_Mo_append_135 (lv_at hl 0 rfl) ?_
  refine lv_if_ne (tgt := 153) hx hb d_Mo_append_137 (by decide) (fun c137 => absurd (show nI 0 = 0 by decide) c137) (fun c137 => ?_)
  refine lv_aload_n hx hb d_Mo_append_140 rfl (lv_at hl 2 rfl) ?_
  refine call_I (As := []) (rest := []) F hK (hT) km_Mo_71 ki_Mo_take ks_Mo_take k0_Mo kc_Mo_take kd_Mo_take ⟨Nat.le_of_ble_eq_true rfl, Nat.le_of_ble_eq_true rfl⟩ (nw_recv hK.k hP (i := 0) (by decide) md_0 rfl) (hP) (hI) hl.1 rfl (Nat.le_of_ble_eq_true rfl) d_Mo_append_141 ⟨(Nat.le_of_ble_eq_true rfl), (Nat.le_of_ble_eq_true rfl)⟩ hS (na_le hS) (fun H1 locs1 hP1 hk1 hS => ?_)
  have hP : nw D vcl PM ad (mdC cy ad 0 dn2 tp 0 w2 cp2 cb we2 be2 lg2 co2 fi2 bn2 op2 ro fo) H1 := hP1
  generalize H1 = H at hP hS ⊢
  refine lv_if_ne (tgt := 153) hx hb d_Mo_append_144 (by decide) (fun c144 => absurd (show bI false = 0 by decide) c144) (fun c144 => ?_)
  refine lv_aload_n hx hb d_Mo_append_147 rfl (lv_at hl 2 rfl) ?_
  refine lv_iconst (v := nI 2) hx hb d_Mo_append_148 (by decide) ?_
  refine call_I (As := [.int (nI 2)]) (rest := []) F hK (c_Mo_fail l D cy ad 0 0 cp2 cb bn2 fo dn2 w2 tp we2 be2 co2 fi2 ro lg2 op2 2) km_Mo_45 ki_Mo_fail ks_Mo_fail k0_Mo kc_Mo_fail kd_Mo_fail ⟨Nat.le_of_ble_eq_true rfl, Nat.le_of_ble_eq_true rfl⟩ (nw_recv hK.k hP (i := 0) (by decide) md_0 rfl) (hP) (hI) hl.1 rfl (Nat.le_of_ble_eq_true rfl) d_Mo_append_149 ⟨(Nat.le_of_ble_eq_true rfl), (Nat.le_of_ble_eq_true rfl)⟩ hS (na_le hS) (fun H1 locs1 hP1 hk1 hS => ?_)
  have hP : nw D vcl PM ad (mdC cy ad 2 dn2 tp 0 w2 cp2 cb we2 be2 lg2 co2 fi2 bn2 op2 ro fo) H1 := hP1
  generalize H1 = H at hP hS ⊢
  exact end_I F hr hlk rfl hP hS d_Mo_append_152
set_option maxRecDepth 100000 in
set_option maxHeartbeats 4000000 in
theorem c_Mo_append8s (l : Launch) (D : va_G) (cy : Nat → ClassId) (ad : Nat → Nat) (fl tn cp cb bn fo : Nat) (dn w : Bool) (tp we be co fi ro : Nat → Nat) (lg : Nat → Bool) (op : Option Nat) (kd mo k : Nat) (hkd1 : 1 ≤ kd) (hkd2 : kd ≤ 15) (hmo : mo < 2 ^ 31) (hk : k ≤ 45) (hkt : k ≤ tn) (htk : tn ≤ k + 1000) (b : Nat) (hb24 : b < 24) (HQ : ∀ b, b < 24 → fi b ≤ 2040 ∧ co b < 2 ^ 16) (hroom : 2040 < fi b + 9 + tn) (h24 : cntL lg 24 ≠ 24) (cp2 bn2 : Nat) (w2 : Bool) (we2 be2 co2 fi2 : Nat → Nat) (lg2 : Nat → Bool) (b2 : Nat) (hT : mtI l y_Mo_take b_Mo_take 3 (some .boolean) { frames := 1, cells := 0, slots := 0, locals := 21 } D cy [.ref (ad 0)] PM ad (mdC cy ad 0 false tp 0 w cp cb we be lg co fi bn (some b) ro fo) (mdC cy ad 0 false tp 0 w2 cp2 cb we2 be2 lg2 co2 fi2 bn2 (some b2) ro fo) (bI true)) (hb2 : b2 < 24) (HQ2 : ∀ b, b < 24 → fi2 b ≤ 2040 ∧ co2 b < 2 ^ 16) (hroom2 : fi2 b2 + 9 + tn ≤ 2040) (hcp : cp2 < 2 ^ 31) (hcb : cb < 2 ^ 31) (hdn : cutF w2 cp2 = true) : mtI l y_Mo_append b_Mo_append 8 (some .int) RM D cy [.ref (ad 0), .int (nI kd), .int (nI mo), .int (nI k)] PM ad (mdC cy ad fl false tp tn w cp cb we be lg co fi bn (some b) ro fo) (mdC cy ad 2 true tp 0 (cutW w2 cp2) (cutP w2 cp2) cb we2 be2 lg2 co2 fi2 bn2 (some b2) ro fo) (nI 0) := by
  intro sz
  refine nm_ofW (cc := b_Mo_append) (maxL := 8) (ret := (some .int)) (own := R_Mo) (by decide) (Nat.le_of_ble_eq_true rfl) rfl ?_
  intro p e s m below meth c ls F hr hlk hnm hv hl
  obtain ⟨hx, hb, hml, hown, hts⟩ := id F
  obtain ⟨rfl, hP, hK, hI⟩ := hv
  have hD : nd (na PM ad s.heap.size) PM ad := nd_self hI
  have hA : ∀ q, s.heap.size ≤ q → na PM ad s.heap.size q := fun q h => Or.inr h
  have hS : va_S (na PM ad s.heap.size) s.heap s.heap [] := va_S.rf
  have hl : lv_has ls 8 [(0, .ref (ad 0)), (1, .int (nI kd)), (2, .int (nI mo)), (3, .int (nI k))] := hl
  have hq0 := HQ b hb24
  have hq2 := HQ2 b2 hb2
  have hcl := cntL_le lg 24
  refine lv_aload_n hx hb d_Mo_append_0 rfl (lv_at hl 0 rfl) ?_
  refine lv_iconst (v := nI 0) hx hb d_Mo_append_1 (by decide) ?_
  refine nw_put (D := D) (ci := 5) (C := R_Mo) (T := T_Mo) (N := 16) hx hb hts in_Mo ty_Mo tk_Mo nm_Mo hown hK.k hP hD hS (i := 0) (by decide) md_0 rfl 0 (by decide) (hts _ kf_Mo_38) rfl rfl rfl (Nat.le_of_ble_eq_true rfl) d_Mo_append_2 (fun H locs hP hS hz hq => ?_)
  have hP : nw D vcl PM ad (mdC cy ad 0 false tp tn w cp cb we be lg co fi bn (some b) ro fo) H := nw_congr hP (mdu_fl)
  refine lv_iload_n hx hb d_Mo_append_5 rfl (lv_at hl 1 rfl) ?_
  refine lv_iconst (v := nI 1) hx hb d_Mo_append_6 (by decide) ?_
  refine lv_icmp_lt (tgt := 50) hx hb d_Mo_append_7 (by decide) (fun c7 => absurd c7 (fun z => absurd ((nI_ltI (by omega) (by omega)).mp z) (by omega))) (fun c7 => ?_)
  refine lv_iload_n hx hb d_Mo_append_10 rfl (lv_at hl 1 rfl) ?_
  refine lv_bipush (v := nI 15) hx hb d_Mo_append_11 (by decide) ?_
  refine lv_icmp_gt (tgt := 50) hx hb d_Mo_append_13 (by decide) (fun c13 => absurd c13 (fun z => absurd ((nI_ltI (by omega) (by omega)).mp z) (by omega))) (fun c13 => ?_)
  refine lv_iload_n hx hb d_Mo_append_16 rfl (lv_at hl 2 rfl) ?_
  refine lv_if_lt (tgt := 50) hx hb d_Mo_append_17 (by decide) (fun c17 => absurd c17 (nI_pos (by omega))) (fun c17 => ?_)
  refine lv_iload_n hx hb d_Mo_append_20 rfl (lv_at hl 3 rfl) ?_
  refine lv_if_lt (tgt := 50) hx hb d_Mo_append_21 (by decide) (fun c21 => absurd c21 (nI_pos (by omega))) (fun c21 => ?_)
  refine lv_iload_n hx hb d_Mo_append_24 rfl (lv_at hl 3 rfl) ?_
  refine lv_bipush (v := nI 45) hx hb d_Mo_append_25 (by decide) ?_
  refine lv_icmp_gt (tgt := 50) hx hb d_Mo_append_27 (by decide) (fun c27 => absurd c27 (fun z => absurd ((nI_ltI (by omega) (by omega)).mp z) (by omega))) (fun c27 => ?_)
  refine lv_aload_n hx hb d_Mo_append_30 rfl (lv_at hl 0 rfl) ?_
  refine nw_get (D := D) (ci := 5) (C := R_Mo) (T := T_Mo) (N := 16) hx hb hts in_Mo hown hK.k hP (i := 0) (by decide) md_0 rfl 3 (by decide) (hts _ kf_Mo_49) rfl d_Mo_append_31 ?_
  refine lv_iload_n hx hb d_Mo_append_34 rfl (lv_at hl 3 rfl) ?_
  refine lv_icmp_lt (tgt := 50) hx hb d_Mo_append_35 (by decide) (fun c35 => absurd c35 (fun z => absurd ((nI_ltI (by omega) (by omega)).mp z) (by omega))) (fun c35 => ?_)
  refine lv_aload_n hx hb d_Mo_append_38 rfl (lv_at hl 0 rfl) ?_
  refine nw_get (D := D) (ci := 5) (C := R_Mo) (T := T_Mo) (N := 16) hx hb hts in_Mo hown hK.k hP (i := 0) (by decide) md_0 rfl 3 (by decide) (hts _ kf_Mo_49) rfl d_Mo_append_39 ?_
  refine lv_iload_n hx hb d_Mo_append_42 rfl (lv_at hl 3 rfl) ?_
  refine lv_isub hx hb d_Mo_append_43 ?_
  refine lv_eqi (pk_sub (by omega)) ?_
  refine lv_sipush (v := nI 1000) hx hb d_Mo_append_44 (by decide) ?_
  refine lv_icmp_le (tgt := 56) hx hb d_Mo_append_47 (by decide) (fun c47 => ?_) (fun c47 => absurd ((nI_leI (by omega) (by omega)).mpr (by omega)) c47)
  refine lv_aload_n hx hb d_Mo_append_56 rfl (lv_at hl 0 rfl) ?_
  refine nw_get (D := D) (ci := 5) (C := R_Mo) (T := T_Mo) (N := 16) hx hb hts in_Mo hown hK.k hP (i := 0) (by decide) md_0 rfl 1 (by decide) (hts _ kf_Mo_41) rfl d_Mo_append_57 ?_
  refine lv_if_eq (tgt := 69) hx hb d_Mo_append_60 (by decide) (fun c60 => ?_) (fun c60 => absurd (show bI false = 0 by decide) c60)
  refine lv_aload_n hx hb d_Mo_append_69 rfl (lv_at hl 0 rfl) ?_
  refine nw_get (D := D) (ci := 5) (C := R_Mo) (T := T_Mo) (N := 16) hx hb hts in_Mo hown hK.k hP (i := 0) (by decide) md_0 rfl 3 (by decide) (hts _ kf_Mo_49) rfl d_Mo_append_70 ?_
  refine lv_istore (lv' := [(4, .int (nI tn)), (0, .ref (ad 0)), (1, .int (nI kd)), (2, .int (nI mo)), (3, .int (nI k))]) hx hb d_Mo_append_73 hl (by decide) rfl (fun ls hl => ?_)
  refine lv_aload_n hx hb d_Mo_append_75 rfl (lv_at hl 1 rfl) ?_
  refine lv_iconst (v := nI 0) hx hb d_Mo_append_76 (by decide) ?_
  refine nw_put (D := D) (ci := 5) (C := R_Mo) (T := T_Mo) (N := 16) hx hb hts in_Mo ty_Mo tk_Mo nm_Mo hown hK.k hP hD hS (i := 0) (by decide) md_0 rfl 3 (by decide) (hts _ kf_Mo_49) rfl rfl rfl (Nat.le_of_ble_eq_true rfl) d_Mo_append_77 (fun H locs hP hS hz hq => ?_)
  have hP : nw D vcl PM ad (mdC cy ad 0 false tp 0 w cp cb we be lg co fi bn (some b) ro fo) H := nw_congr hP (mdu_tn)
  refine lv_aload_n hx hb d_Mo_append_80 rfl (lv_at hl 1 rfl) ?_
  refine nw_get (D := D) (ci := 5) (C := R_Mo) (T := T_Mo) (N := 16) hx hb hts in_Mo hown hK.k hP (i := 0) (by decide) md_0 rfl 13 (by decide) (hts _ kf_Mo_30) rfl d_Mo_append_81 ?_
  refine lv_eqi (y := nI b) rfl ?_
  refine lv_if_lt (tgt := 112) hx hb d_Mo_append_84 (by decide) (fun c84 => absurd c84 (nI_pos (by omega))) (fun c84 => ?_)
  refine lv_aload_n hx hb d_Mo_append_87 rfl (lv_at hl 1 rfl) ?_
  refine nw_get (D := D) (ci := 5) (C := R_Mo) (T := T_Mo) (N := 16) hx hb hts in_Mo hown hK.k hP (i := 0) (by decide) md_0 rfl 11 (by decide) (hts _ kf_Mo_27) rfl d_Mo_append_88 ?_
  refine lv_aload_n hx hb d_Mo_append_91 rfl (lv_at hl 1 rfl) ?_
  refine nw_get (D := D) (ci := 5) (C := R_Mo) (T := T_Mo) (N := 16) hx hb hts in_Mo hown hK.k hP (i := 0) (by decide) md_0 rfl 13 (by decide) (hts _ kf_Mo_30) rfl d_Mo_append_92 ?_
  refine lv_eqi (y := nI b) rfl ?_
  refine nw_iald hx hb hK.k hP (i := 6) (by decide) md_6 1 rfl (vp_in_nI (by omega) (by omega)) d_Mo_append_95 ?_
  refine lv_eqi (y := nI (fi b)) (by rw [nI_clamp (by omega)]) ?_
  refine lv_bipush (v := nI 9) hx hb d_Mo_append_96 (by decide) ?_
  refine lv_iadd hx hb d_Mo_append_98 ?_
  refine lv_eqi (nI_add _ _) ?_
  refine lv_iload hx hb d_Mo_append_99 (lv_at hl 0 rfl) ?_
  refine lv_iadd hx hb d_Mo_append_101 ?_
  refine lv_eqi (nI_add _ _) ?_
  refine lv_sipush (v := nI 2040) hx hb d_Mo_append_102 (by decide) ?_
  refine lv_icmp_gt (tgt := 112) hx hb d_Mo_append_105 (by decide) (fun c105 => ?_) (fun c105 => absurd ((nI_ltI (by omega) (by omega)).mpr (by omega)) c105)
  refine lv_iconst (v := nI 0) hx hb d_Mo_append_112 (by decide) ?_
  refine lv_istore (lv' := [(5, .int (nI 0)), (4, .int (nI tn)), (0, .ref (ad 0)), (1, .int (nI kd)), (2, .int (nI mo)), (3, .int (nI k))]) hx hb d_Mo_append_113 hl (by decide) rfl (fun ls hl => ?_)
  refine lv_iload hx hb d_Mo_append_115 (lv_at hl 0 rfl) ?_
  refine lv_if_ne (tgt := 135) hx hb d_Mo_append_117 (by decide) (fun c117 => absurd (show nI 0 = 0 by decide) c117) (fun c117 => ?_)
  refine lv_aload_n hx hb d_Mo_append_120 rfl (lv_at hl 2 rfl) ?_
  refine call_R (As := []) (rest := []) F hK (c_Mo_blocks l D cy ad 0 0 cp cb bn fo false w tp we be co fi ro lg (some b)) km_Mo_67 ki_Mo_blocks ks_Mo_blocks k0_Mo kc_Mo_blocks kd_Mo_blocks ⟨Nat.le_of_ble_eq_true rfl, Nat.le_of_ble_eq_true rfl⟩ (nw_recv hK.k hP (i := 0) (by decide) md_0 rfl) (hP) (hI) hl.1 rfl (Nat.le_of_ble_eq_true rfl) d_Mo_append_121 ⟨(Nat.le_of_ble_eq_true rfl), (Nat.le_of_ble_eq_true rfl)⟩ hS (fun H1 locs1 hN hS => ?_)
  have hP := hN _ _ _ hP
  generalize H1 = H at hP hS ⊢
  refine lv_bipush (v := nI 24) hx hb d_Mo_append_124 (by decide) ?_
  refine lv_icmp_ne (tgt := 135) hx hb d_Mo_append_126 (by decide) (fun c126 => ?_) (fun c126 => absurd ((nI_eq (by omega) (by omega)).mp c126) h24)
  refine lv_iload hx hb d_Mo_append_135 (lv_at hl 0 rfl) ?_
  refine lv_if_ne (tgt := 153) hx hb d_Mo_append_137 (by decide) (fun c137 => absurd (show nI 0 = 0 by decide) c137) (fun c137 => ?_)
  refine lv_aload_n hx hb d_Mo_append_140 rfl (lv_at hl 2 rfl) ?_
  refine call_I (As := []) (rest := []) F hK (hT) km_Mo_71 ki_Mo_take ks_Mo_take k0_Mo kc_Mo_take kd_Mo_take ⟨Nat.le_of_ble_eq_true rfl, Nat.le_of_ble_eq_true rfl⟩ (nw_recv hK.k hP (i := 0) (by decide) md_0 rfl) (hP) (hI) hl.1 rfl (Nat.le_of_ble_eq_true rfl) d_Mo_append_141 ⟨(Nat.le_of_ble_eq_true rfl), (Nat.le_of_ble_eq_true rfl)⟩ hS (na_le hS) (fun H1 locs1 hP1 hk1 hS => ?_)
  have hP : nw D vcl PM ad (mdC cy ad 0 false tp 0 w2 cp2 cb we2 be2 lg2 co2 fi2 bn2 (some b2) ro fo) H1 := hP1
  generalize H1 = H at hP hS ⊢
  refine lv_if_ne (tgt := 153) hx hb d_Mo_append_144 (by decide) (fun c144 => ?_) (fun c144 => absurd c144 (by decide))
  refine lv_aload_n hx hb d_Mo_append_153 rfl (lv_at hl 2 rfl) ?_
  refine lv_bipush (v := nI 9) hx hb d_Mo_append_154 (by decide) ?_
  refine lv_iload hx hb d_Mo_append_156 (lv_at hl 1 rfl) ?_
  refine lv_iadd hx hb d_Mo_append_158 ?_
  refine lv_eqi (nI_add _ _) ?_
  refine call_I (As := [.int (nI (9 + tn))]) (rest := []) F hK (c_Mo_partF l D cy ad 0 0 cp2 cb bn2 fo false w2 tp we2 be2 co2 fi2 ro lg2 (some b2) (9 + tn) (by omega) (by omega) hcb hcp hdn) km_Mo_61 ki_Mo_part ks_Mo_part k0_Mo kc_Mo_part kd_Mo_part ⟨Nat.le_of_ble_eq_true rfl, Nat.le_of_ble_eq_true rfl⟩ (nw_recv hK.k hP (i := 0) (by decide) md_0 rfl) (hP) (hI) hl.1 rfl (Nat.le_of_ble_eq_true rfl) d_Mo_append_159 ⟨(Nat.le_of_ble_eq_true rfl), (Nat.le_of_ble_eq_true rfl)⟩ hS (na_le hS) (fun H1 locs1 hP1 hk1 hS => ?_)
  have hP : nw D vcl PM ad (mdC cy ad 0 true tp 0 (cutW w2 cp2) (cutP w2 cp2) cb we2 be2 lg2 co2 fi2 bn2 (some b2) ro fo) H1 := hP1
  generalize H1 = H at hP hS ⊢
  refine lv_bipush (v := nI 9) hx hb d_Mo_append_162 (by decide) ?_
  refine lv_iload hx hb d_Mo_append_164 (lv_at hl 1 rfl) ?_
  refine lv_iadd hx hb d_Mo_append_166 ?_
  refine lv_eqi (nI_add _ _) ?_
  refine lv_icmp_ge (tgt := 176) hx hb d_Mo_append_167 (by decide) (fun c167 => absurd c167 (fun z => absurd ((nI_leI (by omega) (by omega)).mp z) (by omega))) (fun c167 => ?_)
  refine lv_aload_n hx hb d_Mo_append_170 rfl (lv_at hl 2 rfl) ?_
  refine lv_iconst (v := nI 2) hx hb d_Mo_append_171 (by decide) ?_
  refine call_I (As := [.int (nI 2)]) (rest := []) F hK (c_Mo_fail l D cy ad 0 0 (cutP w2 cp2) cb bn2 fo true (cutW w2 cp2) tp we2 be2 co2 fi2 ro lg2 (some b2) 2) km_Mo_45 ki_Mo_fail ks_Mo_fail k0_Mo kc_Mo_fail kd_Mo_fail ⟨Nat.le_of_ble_eq_true rfl, Nat.le_of_ble_eq_true rfl⟩ (nw_recv hK.k hP (i := 0) (by decide) md_0 rfl) (hP) (hI) hl.1 rfl (Nat.le_of_ble_eq_true rfl) d_Mo_append_172 ⟨(Nat.le_of_ble_eq_true rfl), (Nat.le_of_ble_eq_true rfl)⟩ hS (na_le hS) (fun H1 locs1 hP1 hk1 hS => ?_)
  have hP : nw D vcl PM ad (mdC cy ad 2 true tp 0 (cutW w2 cp2) (cutP w2 cp2) cb we2 be2 lg2 co2 fi2 bn2 (some b2) ro fo) H1 := hP1
  generalize H1 = H at hP hS ⊢
  exact end_I F hr hlk rfl hP hS d_Mo_append_175
set_option maxRecDepth 100000 in
set_option maxHeartbeats 4000000 in
theorem c_Mo_append9s (l : Launch) (D : va_G) (cy : Nat → ClassId) (ad : Nat → Nat) (fl tn cp cb bn fo : Nat) (dn w : Bool) (tp we be co fi ro : Nat → Nat) (lg : Nat → Bool) (op : Option Nat) (kd mo k : Nat) (hkd1 : 1 ≤ kd) (hkd2 : kd ≤ 15) (hmo : mo < 2 ^ 31) (hk : k ≤ 45) (hkt : k ≤ tn) (htk : tn ≤ k + 1000) (b : Nat) (hb24 : b < 24) (HQ : ∀ b, b < 24 → fi b ≤ 2040 ∧ co b < 2 ^ 16) (hroom : 2040 < fi b + 9 + tn) (h24 : cntL lg 24 ≠ 24) (cp2 bn2 : Nat) (w2 : Bool) (we2 be2 co2 fi2 : Nat → Nat) (lg2 : Nat → Bool) (b2 : Nat) (hT : mtI l y_Mo_take b_Mo_take 3 (some .boolean) { frames := 1, cells := 0, slots := 0, locals := 21 } D cy [.ref (ad 0)] PM ad (mdC cy ad 0 false tp 0 w cp cb we be lg co fi bn (some b) ro fo) (mdC cy ad 0 false tp 0 w2 cp2 cb we2 be2 lg2 co2 fi2 bn2 (some b2) ro fo) (bI true)) (hb2 : b2 < 24) (HQ2 : ∀ b, b < 24 → fi2 b ≤ 2040 ∧ co2 b < 2 ^ 16) (hroom2 : fi2 b2 + 9 + tn ≤ 2040) (hcp : cp2 < 2 ^ 31) (hcb : cb < 2 ^ 31) (a : Nat) (ha : 2040 * b2 + fi2 b2 = a) (hdn : cutF w2 cp2 = false) : mtI l y_Mo_append b_Mo_append 8 (some .int) RM D cy [.ref (ad 0), .int (nI kd), .int (nI mo), .int (nI k)] PM ad (mdC cy ad fl false tp tn w cp cb we be lg co fi bn (some b) ro fo) (mdC cy ad 0 false tp 0 (cutW w2 cp2) (cutP w2 cp2) cb we2 be2 lg2 (va_up co2 b2 (co2 b2 + 1)) (va_up fi2 b2 (fi2 b2 + (9 + tn))) bn2 (some b2) (mRB ro a kd mo k tn tp) fo) (nI (co2 b2 + 1)) := by
  intro sz
  refine nm_ofW (cc := b_Mo_append) (maxL := 8) (ret := (some .int)) (own := R_Mo) (by decide) (Nat.le_of_ble_eq_true rfl) rfl ?_
  intro p e s m below meth c ls F hr hlk hnm hv hl
  obtain ⟨hx, hb, hml, hown, hts⟩ := id F
  obtain ⟨rfl, hP, hK, hI⟩ := hv
  have hD : nd (na PM ad s.heap.size) PM ad := nd_self hI
  have hA : ∀ q, s.heap.size ≤ q → na PM ad s.heap.size q := fun q h => Or.inr h
  have hS : va_S (na PM ad s.heap.size) s.heap s.heap [] := va_S.rf
  have hl : lv_has ls 8 [(0, .ref (ad 0)), (1, .int (nI kd)), (2, .int (nI mo)), (3, .int (nI k))] := hl
  have hq0 := HQ b hb24
  have hq2 := HQ2 b2 hb2
  have hcl := cntL_le lg 24
  refine lv_aload_n hx hb d_Mo_append_0 rfl (lv_at hl 0 rfl) ?_
  refine lv_iconst (v := nI 0) hx hb d_Mo_append_1 (by decide) ?_
  refine nw_put (D := D) (ci := 5) (C := R_Mo) (T := T_Mo) (N := 16) hx hb hts in_Mo ty_Mo tk_Mo nm_Mo hown hK.k hP hD hS (i := 0) (by decide) md_0 rfl 0 (by decide) (hts _ kf_Mo_38) rfl rfl rfl (Nat.le_of_ble_eq_true rfl) d_Mo_append_2 (fun H locs hP hS hz hq => ?_)
  have hP : nw D vcl PM ad (mdC cy ad 0 false tp tn w cp cb we be lg co fi bn (some b) ro fo) H := nw_congr hP (mdu_fl)
  refine lv_iload_n hx hb d_Mo_append_5 rfl (lv_at hl 1 rfl) ?_
  refine lv_iconst (v := nI 1) hx hb d_Mo_append_6 (by decide) ?_
  refine lv_icmp_lt (tgt := 50) hx hb d_Mo_append_7 (by decide) (fun c7 => absurd c7 (fun z => absurd ((nI_ltI (by omega) (by omega)).mp z) (by omega))) (fun c7 => ?_)
  refine lv_iload_n hx hb d_Mo_append_10 rfl (lv_at hl 1 rfl) ?_
  refine lv_bipush (v := nI 15) hx hb d_Mo_append_11 (by decide) ?_
  refine lv_icmp_gt (tgt := 50) hx hb d_Mo_append_13 (by decide) (fun c13 => absurd c13 (fun z => absurd ((nI_ltI (by omega) (by omega)).mp z) (by omega))) (fun c13 => ?_)
  refine lv_iload_n hx hb d_Mo_append_16 rfl (lv_at hl 2 rfl) ?_
  refine lv_if_lt (tgt := 50) hx hb d_Mo_append_17 (by decide) (fun c17 => absurd c17 (nI_pos (by omega))) (fun c17 => ?_)
  refine lv_iload_n hx hb d_Mo_append_20 rfl (lv_at hl 3 rfl) ?_
  refine lv_if_lt (tgt := 50) hx hb d_Mo_append_21 (by decide) (fun c21 => absurd c21 (nI_pos (by omega))) (fun c21 => ?_)
  refine lv_iload_n hx hb d_Mo_append_24 rfl (lv_at hl 3 rfl) ?_
  refine lv_bipush (v := nI 45) hx hb d_Mo_append_25 (by decide) ?_
  refine lv_icmp_gt (tgt := 50) hx hb d_Mo_append_27 (by decide) (fun c27 => absurd c27 (fun z => absurd ((nI_ltI (by omega) (by omega)).mp z) (by omega))) (fun c27 => ?_)
  refine lv_aload_n hx hb d_Mo_append_30 rfl (lv_at hl 0 rfl) ?_
  refine nw_get (D := D) (ci := 5) (C := R_Mo) (T := T_Mo) (N := 16) hx hb hts in_Mo hown hK.k hP (i := 0) (by decide) md_0 rfl 3 (by decide) (hts _ kf_Mo_49) rfl d_Mo_append_31 ?_
  refine lv_iload_n hx hb d_Mo_append_34 rfl (lv_at hl 3 rfl) ?_
  refine lv_icmp_lt (tgt := 50) hx hb d_Mo_append_35 (by decide) (fun c35 => absurd c35 (fun z => absurd ((nI_ltI (by omega) (by omega)).mp z) (by omega))) (fun c35 => ?_)
  refine lv_aload_n hx hb d_Mo_append_38 rfl (lv_at hl 0 rfl) ?_
  refine nw_get (D := D) (ci := 5) (C := R_Mo) (T := T_Mo) (N := 16) hx hb hts in_Mo hown hK.k hP (i := 0) (by decide) md_0 rfl 3 (by decide) (hts _ kf_Mo_49) rfl d_Mo_append_39 ?_
  refine lv_iload_n hx hb d_Mo_append_42 rfl (lv_at hl 3 rfl) ?_
  refine lv_isub hx hb d_Mo_append_43 ?_
  refine lv_eqi (pk_sub (by omega)) ?_
  refine lv_sipush (v := nI 1000) hx hb d_Mo_append_44 (by decide) ?_
  refine lv_icmp_le (tgt := 56) hx hb d_Mo_append_47 (by decide) (fun c47 => ?_) (fun c47 => absurd ((nI_leI (by omega) (by omega)).mpr (by omega)) c47)
  refine lv_aload_n hx hb d_Mo_append_56 rfl (lv_at hl 0 rfl) ?_
  refine nw_get (D := D) (ci := 5) (C := R_Mo) (T := T_Mo) (N := 16) hx hb hts in_Mo hown hK.k hP (i := 0) (by decide) md_0 rfl 1 (by decide) (hts _ kf_Mo_41) rfl d_Mo_append_57 ?_
  refine lv_if_eq (tgt := 69) hx hb d_Mo_append_60 (by decide) (fun c60 => ?_) (fun c60 => absurd (show bI false = 0 by decide) c60)
  refine lv_aload_n hx hb d_Mo_append_69 rfl (lv_at hl 0 rfl) ?_
  refine nw_get (D := D) (ci := 5) (C := R_Mo) (T := T_Mo) (N := 16) hx hb hts in_Mo hown hK.k hP (i := 0) (by decide) md_0 rfl 3 (by decide) (hts _ kf_Mo_49) rfl d_Mo_append_70 ?_
  refine lv_istore (lv' := [(4, .int (nI tn)), (0, .ref (ad 0)), (1, .int (nI kd)), (2, .int (nI mo)), (3, .int (nI k))]) hx hb d_Mo_append_73 hl (by decide) rfl (fun ls hl => ?_)
  refine lv_aload_n hx hb d_Mo_append_75 rfl (lv_at hl 1 rfl) ?_
  refine lv_iconst (v := nI 0) hx hb d_Mo_append_76 (by decide) ?_
  refine nw_put (D := D) (ci := 5) (C := R_Mo) (T := T_Mo) (N := 16) hx hb hts in_Mo ty_Mo tk_Mo nm_Mo hown hK.k hP hD hS (i := 0) (by decide) md_0 rfl 3 (by decide) (hts _ kf_Mo_49) rfl rfl rfl (Nat.le_of_ble_eq_true rfl) d_Mo_append_77 (fun H locs hP hS hz hq => ?_)
  have hP : nw D vcl PM ad (mdC cy ad 0 false tp 0 w cp cb we be lg co fi bn (some b) ro fo) H := nw_congr hP (mdu_tn)
  refine lv_aload_n hx hb d_Mo_append_80 rfl (lv_at hl 1 rfl) ?_
  refine nw_get (D := D) (ci := 5) (C := R_Mo) (T := T_Mo) (N := 16) hx hb hts in_Mo hown hK.k hP (i := 0) (by decide) md_0 rfl 13 (by decide) (hts _ kf_Mo_30) rfl d_Mo_append_81 ?_
  refine lv_eqi (y := nI b) rfl ?_
  refine lv_if_lt (tgt := 112) hx hb d_Mo_append_84 (by decide) (fun c84 => absurd c84 (nI_pos (by omega))) (fun c84 => ?_)
  refine lv_aload_n hx hb d_Mo_append_87 rfl (lv_at hl 1 rfl) ?_
  refine nw_get (D := D) (ci := 5) (C := R_Mo) (T := T_Mo) (N := 16) hx hb hts in_Mo hown hK.k hP (i := 0) (by decide) md_0 rfl 11 (by decide) (hts _ kf_Mo_27) rfl d_Mo_append_88 ?_
  refine lv_aload_n hx hb d_Mo_append_91 rfl (lv_at hl 1 rfl) ?_
  refine nw_get (D := D) (ci := 5) (C := R_Mo) (T := T_Mo) (N := 16) hx hb hts in_Mo hown hK.k hP (i := 0) (by decide) md_0 rfl 13 (by decide) (hts _ kf_Mo_30) rfl d_Mo_append_92 ?_
  refine lv_eqi (y := nI b) rfl ?_
  refine nw_iald hx hb hK.k hP (i := 6) (by decide) md_6 1 rfl (vp_in_nI (by omega) (by omega)) d_Mo_append_95 ?_
  refine lv_eqi (y := nI (fi b)) (by rw [nI_clamp (by omega)]) ?_
  refine lv_bipush (v := nI 9) hx hb d_Mo_append_96 (by decide) ?_
  refine lv_iadd hx hb d_Mo_append_98 ?_
  refine lv_eqi (nI_add _ _) ?_
  refine lv_iload hx hb d_Mo_append_99 (lv_at hl 0 rfl) ?_
  refine lv_iadd hx hb d_Mo_append_101 ?_
  refine lv_eqi (nI_add _ _) ?_
  refine lv_sipush (v := nI 2040) hx hb d_Mo_append_102 (by decide) ?_
  refine lv_icmp_gt (tgt := 112) hx hb d_Mo_append_105 (by decide) (fun c105 => ?_) (fun c105 => absurd ((nI_ltI (by omega) (by omega)).mpr (by omega)) c105)
  refine lv_iconst (v := nI 0) hx hb d_Mo_append_112 (by decide) ?_
  refine lv_istore (lv' := [(5, .int (nI 0)), (4, .int (nI tn)), (0, .ref (ad 0)), (1, .int (nI kd)), (2, .int (nI mo)), (3, .int (nI k))]) hx hb d_Mo_append_113 hl (by decide) rfl (fun ls hl => ?_)
  refine lv_iload hx hb d_Mo_append_115 (lv_at hl 0 rfl) ?_
  refine lv_if_ne (tgt := 135) hx hb d_Mo_append_117 (by decide) (fun c117 => absurd (show nI 0 = 0 by decide) c117) (fun c117 => ?_)
  refine lv_aload_n hx hb d_Mo_append_120 rfl (lv_at hl 2 rfl) ?_
  refine call_R (As := []) (rest := []) F hK (c_Mo_blocks l D cy ad 0 0 cp cb bn fo false w tp we be co fi ro lg (some b)) km_Mo_67 ki_Mo_blocks ks_Mo_blocks k0_Mo kc_Mo_blocks kd_Mo_blocks ⟨Nat.le_of_ble_eq_true rfl, Nat.le_of_ble_eq_true rfl⟩ (nw_recv hK.k hP (i := 0) (by decide) md_0 rfl) (hP) (hI) hl.1 rfl (Nat.le_of_ble_eq_true rfl) d_Mo_append_121 ⟨(Nat.le_of_ble_eq_true rfl), (Nat.le_of_ble_eq_true rfl)⟩ hS (fun H1 locs1 hN hS => ?_)
  have hP := hN _ _ _ hP
  generalize H1 = H at hP hS ⊢
  refine lv_bipush (v := nI 24) hx hb d_Mo_append_124 (by decide) ?_
  refine lv_icmp_ne (tgt := 135) hx hb d_Mo_append_126 (by decide) (fun c126 => ?_) (fun c126 => absurd ((nI_eq (by omega) (by omega)).mp c126) h24)
  refine lv_iload hx hb d_Mo_append_135 (lv_at hl 0 rfl) ?_
  refine lv_if_ne (tgt := 153) hx hb d_Mo_append_137 (by decide) (fun c137 => absurd (show nI 0 = 0 by decide) c137) (fun c137 => ?_)
  refine lv_aload_n hx hb d_Mo_append_140 rfl (lv_at hl 2 rfl) ?_
  refine call_I (As := []) (rest := []) F hK (hT) km_Mo_71 ki_Mo_take ks_Mo_take k0_Mo kc_Mo_take kd_Mo_take ⟨Nat.le_of_ble_eq_true rfl, Nat.le_of_ble_eq_true rfl⟩ (nw_recv hK.k hP (i := 0) (by decide) md_0 rfl) (hP) (hI) hl.1 rfl (Nat.le_of_ble_eq_true rfl) d_Mo_append_141 ⟨(Nat.le_of_ble_eq_true rfl), (Nat.le_of_ble_eq_true rfl)⟩ hS (na_le hS) (fun H1 locs1 hP1 hk1 hS => ?_)
  have hP : nw D vcl PM ad (mdC cy ad 0 false tp 0 w2 cp2 cb we2 be2 lg2 co2 fi2 bn2 (some b2) ro fo) H1 := hP1
  generalize H1 = H at hP hS ⊢
  refine lv_if_ne (tgt := 153) hx hb d_Mo_append_144 (by decide) (fun c144 => ?_) (fun c144 => absurd c144 (by decide))
  refine lv_aload_n hx hb d_Mo_append_153 rfl (lv_at hl 2 rfl) ?_
  refine lv_bipush (v := nI 9) hx hb d_Mo_append_154 (by decide) ?_
  refine lv_iload hx hb d_Mo_append_156 (lv_at hl 1 rfl) ?_
  refine lv_iadd hx hb d_Mo_append_158 ?_
  refine lv_eqi (nI_add _ _) ?_
  refine call_I (As := [.int (nI (9 + tn))]) (rest := []) F hK (c_Mo_partT l D cy ad 0 0 cp2 cb bn2 fo false w2 tp we2 be2 co2 fi2 ro lg2 (some b2) (9 + tn) (by omega) (by omega) hcb hcp hdn) km_Mo_61 ki_Mo_part ks_Mo_part k0_Mo kc_Mo_part kd_Mo_part ⟨Nat.le_of_ble_eq_true rfl, Nat.le_of_ble_eq_true rfl⟩ (nw_recv hK.k hP (i := 0) (by decide) md_0 rfl) (hP) (hI) hl.1 rfl (Nat.le_of_ble_eq_true rfl) d_Mo_append_159 ⟨(Nat.le_of_ble_eq_true rfl), (Nat.le_of_ble_eq_true rfl)⟩ hS (na_le hS) (fun H1 locs1 hP1 hk1 hS => ?_)
  have hP : nw D vcl PM ad (mdC cy ad 0 false tp 0 (cutW w2 cp2) (cutP w2 cp2) cb we2 be2 lg2 co2 fi2 bn2 (some b2) ro fo) H1 := hP1
  generalize H1 = H at hP hS ⊢
  refine lv_bipush (v := nI 9) hx hb d_Mo_append_162 (by decide) ?_
  refine lv_iload hx hb d_Mo_append_164 (lv_at hl 1 rfl) ?_
  refine lv_iadd hx hb d_Mo_append_166 ?_
  refine lv_eqi (nI_add _ _) ?_
  refine lv_icmp_ge (tgt := 176) hx hb d_Mo_append_167 (by decide) (fun c167 => ?_) (fun c167 => absurd ((nI_leI (by omega) (by omega)).mpr (by omega)) c167)
  refine lv_sipush (v := nI 2040) hx hb d_Mo_append_176 (by decide) ?_
  refine lv_aload_n hx hb d_Mo_append_179 rfl (lv_at hl 2 rfl) ?_
  refine nw_get (D := D) (ci := 5) (C := R_Mo) (T := T_Mo) (N := 16) hx hb hts in_Mo hown hK.k hP (i := 0) (by decide) md_0 rfl 13 (by decide) (hts _ kf_Mo_30) rfl d_Mo_append_180 ?_
  refine lv_eqi (y := nI b2) rfl ?_
  refine lv_imul hx hb d_Mo_append_183 ?_
  refine lv_eqi (pk_mul _ _) ?_
  refine lv_aload_n hx hb d_Mo_append_184 rfl (lv_at hl 2 rfl) ?_
  refine nw_get (D := D) (ci := 5) (C := R_Mo) (T := T_Mo) (N := 16) hx hb hts in_Mo hown hK.k hP (i := 0) (by decide) md_0 rfl 11 (by decide) (hts _ kf_Mo_27) rfl d_Mo_append_185 ?_
  refine lv_aload_n hx hb d_Mo_append_188 rfl (lv_at hl 2 rfl) ?_
  refine nw_get (D := D) (ci := 5) (C := R_Mo) (T := T_Mo) (N := 16) hx hb hts in_Mo hown hK.k hP (i := 0) (by decide) md_0 rfl 13 (by decide) (hts _ kf_Mo_30) rfl d_Mo_append_189 ?_
  refine lv_eqi (y := nI b2) rfl ?_
  refine nw_iald hx hb hK.k hP (i := 6) (by decide) md_6 1 rfl (vp_in_nI (by omega) (by omega)) d_Mo_append_192 ?_
  refine lv_eqi (y := nI (fi2 b2)) (by rw [nI_clamp (by omega)]) ?_
  refine lv_iadd hx hb d_Mo_append_193 ?_
  refine lv_eqi (nI_add _ _) ?_
  rw [ha]
  refine lv_istore (lv' := [(6, .int (nI a)), (5, .int (nI 0)), (4, .int (nI tn)), (0, .ref (ad 0)), (1, .int (nI kd)), (2, .int (nI mo)), (3, .int (nI k))]) hx hb d_Mo_append_194 hl (by decide) rfl (fun ls hl => ?_)
  refine lv_aload_n hx hb d_Mo_append_196 rfl (lv_at hl 3 rfl) ?_
  refine nw_get (D := D) (ci := 5) (C := R_Mo) (T := T_Mo) (N := 16) hx hb hts in_Mo hown hK.k hP (i := 0) (by decide) md_0 rfl 14 (by decide) (hts _ kf_Mo_35) rfl d_Mo_append_197 ?_
  refine lv_iload hx hb d_Mo_append_200 (lv_at hl 0 rfl) ?_
  refine lv_iload_n hx hb d_Mo_append_202 rfl (lv_at hl 4 rfl) ?_
  refine lv_i2b hx hb d_Mo_append_203 rfl ?_
  refine nw_bast hx hb hK.k hP hD hS (i := 7) (by decide) md_7 0 rfl (vp_in_nI (by omega) (by omega)) d_Mo_append_204 (fun H locs hP hS hz hq => ?_)
  rw [nI_clamp (by omega), sb_na, show bof (nI kd) = kd by rw [bof_nI (by omega)]; omega, by_upd] at hP
  have hP : nw D vcl PM ad (mdC cy ad 0 false tp 0 (cutW w2 cp2) (cutP w2 cp2) cb we2 be2 lg2 co2 fi2 bn2 (some b2) (va_up ro a kd) fo) H := nw_congr hP (mdu_ro)
  refine lv_aload_n hx hb d_Mo_append_205 rfl (lv_at hl 3 rfl) ?_
  refine nw_get (D := D) (ci := 5) (C := R_Mo) (T := T_Mo) (N := 16) hx hb hts in_Mo hown hK.k hP (i := 0) (by decide) md_0 rfl 14 (by decide) (hts _ kf_Mo_35) rfl d_Mo_append_206 ?_
  refine lv_iload hx hb d_Mo_append_209 (lv_at hl 0 rfl) ?_
  refine lv_iconst (v := nI 1) hx hb d_Mo_append_211 (by decide) ?_
  refine lv_iadd hx hb d_Mo_append_212 ?_
  refine lv_eqi (nI_add _ _) ?_
  refine lv_iload_n hx hb d_Mo_append_213 rfl (lv_at hl 6 rfl) ?_
  refine lv_i2b hx hb d_Mo_append_214 rfl ?_
  refine nw_bast hx hb hK.k hP hD hS (i := 7) (by decide) md_7 0 rfl (vp_in_nI (by omega) (by omega)) d_Mo_append_215 (fun H locs hP hS hz hq => ?_)
  rw [nI_clamp (by omega), sb_na, show bof (nI k) = k by rw [bof_nI (by omega)]; omega, by_upd] at hP
  have hP : nw D vcl PM ad (mdC cy ad 0 false tp 0 (cutW w2 cp2) (cutP w2 cp2) cb we2 be2 lg2 co2 fi2 bn2 (some b2) (va_up (va_up ro a kd) (a + 1) k) fo) H := nw_congr hP (mdu_ro)
  refine lv_aload_n hx hb d_Mo_append_216 rfl (lv_at hl 3 rfl) ?_
  refine nw_get (D := D) (ci := 5) (C := R_Mo) (T := T_Mo) (N := 16) hx hb hts in_Mo hown hK.k hP (i := 0) (by decide) md_0 rfl 14 (by decide) (hts _ kf_Mo_35) rfl d_Mo_append_217 ?_
  refine lv_iload hx hb d_Mo_append_220 (lv_at hl 0 rfl) ?_
  refine lv_iconst (v := nI 2) hx hb d_Mo_append_222 (by decide) ?_
  refine lv_iadd hx hb d_Mo_append_223 ?_
  refine lv_eqi (nI_add _ _) ?_
  refine lv_iload hx hb d_Mo_append_224 (lv_at hl 2 rfl) ?_
  refine lv_iload_n hx hb d_Mo_append_226 rfl (lv_at hl 6 rfl) ?_
  refine lv_isub hx hb d_Mo_append_227 ?_
  refine lv_eqi (pk_sub (by omega)) ?_
  refine lv_sipush (v := nI 256) hx hb d_Mo_append_228 (by decide) ?_
  refine lv_idiv hx hb d_Mo_append_231 (by decide) ?_
  refine lv_eqi (pk_div (by omega) (by omega) (by omega)) ?_
  refine lv_i2b hx hb d_Mo_append_232 rfl ?_
  refine nw_bast hx hb hK.k hP hD hS (i := 7) (by decide) md_7 0 rfl (vp_in_nI (by omega) (by omega)) d_Mo_append_233 (fun H locs hP hS hz hq => ?_)
  rw [nI_clamp (by omega), sb_na, show bof (nI ((tn - k) / 256)) = (tn - k) / 256 by rw [bof_nI (by omega)]; omega, by_upd] at hP
  have hP : nw D vcl PM ad (mdC cy ad 0 false tp 0 (cutW w2 cp2) (cutP w2 cp2) cb we2 be2 lg2 co2 fi2 bn2 (some b2) (va_up (va_up (va_up ro a kd) (a + 1) k) (a + 2) ((tn - k) / 256)) fo) H := nw_congr hP (mdu_ro)
  refine lv_aload_n hx hb d_Mo_append_234 rfl (lv_at hl 3 rfl) ?_
  refine nw_get (D := D) (ci := 5) (C := R_Mo) (T := T_Mo) (N := 16) hx hb hts in_Mo hown hK.k hP (i := 0) (by decide) md_0 rfl 14 (by decide) (hts _ kf_Mo_35) rfl d_Mo_append_235 ?_
  refine lv_iload hx hb d_Mo_append_238 (lv_at hl 0 rfl) ?_
  refine lv_iconst (v := nI 3) hx hb d_Mo_append_240 (by decide) ?_
  refine lv_iadd hx hb d_Mo_append_241 ?_
  refine lv_eqi (nI_add _ _) ?_
  refine lv_iload hx hb d_Mo_append_242 (lv_at hl 2 rfl) ?_
  refine lv_iload_n hx hb d_Mo_append_244 rfl (lv_at hl 6 rfl) ?_
  refine lv_isub hx hb d_Mo_append_245 ?_
  refine lv_eqi (pk_sub (by omega)) ?_
  refine lv_i2b hx hb d_Mo_append_246 rfl ?_
  refine nw_bast hx hb hK.k hP hD hS (i := 7) (by decide) md_7 0 rfl (vp_in_nI (by omega) (by omega)) d_Mo_append_247 (fun H locs hP hS hz hq => ?_)
  rw [nI_clamp (by omega), sb_na, show bof (nI (tn - k)) = (tn - k) % 256 from bof_nI (by omega), by_upd] at hP
  have hP : nw D vcl PM ad (mdC cy ad 0 false tp 0 (cutW w2 cp2) (cutP w2 cp2) cb we2 be2 lg2 co2 fi2 bn2 (some b2) (mRH ro a kd k tn) fo) H := nw_congr hP (mdu_ro)
  refine lv_iconst (v := nI 0) hx hb d_Mo_append_248 (by decide) ?_
  refine lv_istore (lv' := [(7, .int (nI 0)), (6, .int (nI a)), (5, .int (nI 0)), (4, .int (nI tn)), (0, .ref (ad 0)), (1, .int (nI kd)), (2, .int (nI mo)), (3, .int (nI k))]) hx hb d_Mo_append_249 hl (by decide) rfl (fun ls hl => ?_)
  have fin : ∀ (H : Heap) (locs : List Loc) (ls : Array Slot), nw D vcl PM ad (mdC cy ad 0 false tp 0 (cutW w2 cp2) (cutP w2 cp2) cb we2 be2 lg2 co2 fi2 bn2 (some b2) (mRB ro a kd mo k tn tp) fo) H → va_S (na PM ad s.heap.size) s.heap H locs → lv_has ls 8 [(6, .int (nI a)), (5, .int (nI 0)), (4, .int (nI tn)), (0, .ref (ad 0)), (1, .int (nI kd)), (2, .int (nI mo)), (3, .int (nI k))] → W p l e RM s m [.ref (ad 0), .int (nI kd), .int (nI mo), .int (nI k)].toArray below meth c H locs 0 0 (MQ below (va_Qi (fun r' (_ : Unit) => r' = nI (co2 b2 + 1)) (fun _ t => nw D vcl PM ad (mdC cy ad 0 false tp 0 (cutW w2 cp2) (cutP w2 cp2) cb we2 be2 lg2 (va_up co2 b2 (co2 b2 + 1)) (va_up fi2 b2 (fi2 b2 + (9 + tn))) bn2 (some b2) (mRB ro a kd mo k tn tp) fo) t.heap) (na PM ad s.heap.size)) [.ref (ad 0), .int (nI kd), .int (nI mo), .int (nI k)].toArray s 0 0 (na PM ad s.heap.size)) (F0 m 322 ls []) := by
    intro H locs ls hP hS hl
    refine lv_aload_n hx hb d_Mo_append_322 rfl (lv_at hl 3 rfl) ?_
    refine nw_get (D := D) (ci := 5) (C := R_Mo) (T := T_Mo) (N := 16) hx hb hts in_Mo hown hK.k hP (i := 0) (by decide) md_0 rfl 11 (by decide) (hts _ kf_Mo_27) rfl d_Mo_append_323 ?_
    refine lv_aload_n hx hb d_Mo_append_326 rfl (lv_at hl 3 rfl) ?_
    refine nw_get (D := D) (ci := 5) (C := R_Mo) (T := T_Mo) (N := 16) hx hb hts in_Mo hown hK.k hP (i := 0) (by decide) md_0 rfl 13 (by decide) (hts _ kf_Mo_30) rfl d_Mo_append_327 ?_
    refine lv_eqi (y := nI b2) rfl ?_
    refine lv_dup2_11 hx hb d_Mo_append_330 rfl rfl ?_
    refine nw_iald hx hb hK.k hP (i := 6) (by decide) md_6 1 rfl (vp_in_nI (by omega) (by omega)) d_Mo_append_331 ?_
    refine lv_eqi (y := nI (fi2 b2)) (by rw [nI_clamp (by omega)]) ?_
    refine lv_bipush (v := nI 9) hx hb d_Mo_append_332 (by decide) ?_
    refine lv_iload hx hb d_Mo_append_334 (lv_at hl 2 rfl) ?_
    refine lv_iadd hx hb d_Mo_append_336 ?_
    refine lv_eqi (nI_add _ _) ?_
    refine lv_iadd hx hb d_Mo_append_337 ?_
    refine lv_eqi (nI_add _ _) ?_
    refine nw_iast hx hb hK.k hP hD hS (i := 6) (by decide) md_6 1 rfl (vp_in_nI (by omega) (by omega)) d_Mo_append_338 (fun H locs hP hS hz hq => ?_)
    rw [nI_clamp (by omega), in_upd] at hP
    have hP : nw D vcl PM ad (mdC cy ad 0 false tp 0 (cutW w2 cp2) (cutP w2 cp2) cb we2 be2 lg2 co2 (va_up fi2 b2 (fi2 b2 + (9 + tn))) bn2 (some b2) (mRB ro a kd mo k tn tp) fo) H := nw_congr hP (mdu_fi)
    refine lv_aload_n hx hb d_Mo_append_339 rfl (lv_at hl 3 rfl) ?_
    refine nw_get (D := D) (ci := 5) (C := R_Mo) (T := T_Mo) (N := 16) hx hb hts in_Mo hown hK.k hP (i := 0) (by decide) md_0 rfl 10 (by decide) (hts _ kf_Mo_24) rfl d_Mo_append_340 ?_
    refine lv_aload_n hx hb d_Mo_append_343 rfl (lv_at hl 3 rfl) ?_
    refine nw_get (D := D) (ci := 5) (C := R_Mo) (T := T_Mo) (N := 16) hx hb hts in_Mo hown hK.k hP (i := 0) (by decide) md_0 rfl 13 (by decide) (hts _ kf_Mo_30) rfl d_Mo_append_344 ?_
    refine lv_eqi (y := nI b2) rfl ?_
    refine lv_dup2_11 hx hb d_Mo_append_347 rfl rfl ?_
    refine nw_iald hx hb hK.k hP (i := 5) (by decide) md_5 1 rfl (vp_in_nI (by omega) (by omega)) d_Mo_append_348 ?_
    refine lv_eqi (y := nI (co2 b2)) (by rw [nI_clamp (by omega)]) ?_
    refine lv_iconst (v := nI 1) hx hb d_Mo_append_349 (by decide) ?_
    refine lv_iadd hx hb d_Mo_append_350 ?_
    refine lv_eqi (nI_add _ _) ?_
    refine nw_iast hx hb hK.k hP hD hS (i := 5) (by decide) md_5 1 rfl (vp_in_nI (by omega) (by omega)) d_Mo_append_351 (fun H locs hP hS hz hq => ?_)
    rw [nI_clamp (by omega), in_upd] at hP
    have hP : nw D vcl PM ad (mdC cy ad 0 false tp 0 (cutW w2 cp2) (cutP w2 cp2) cb we2 be2 lg2 (va_up co2 b2 (co2 b2 + 1)) (va_up fi2 b2 (fi2 b2 + (9 + tn))) bn2 (some b2) (mRB ro a kd mo k tn tp) fo) H := nw_congr hP (mdu_co)
    refine lv_aload_n hx hb d_Mo_append_352 rfl (lv_at hl 3 rfl) ?_
    refine nw_get (D := D) (ci := 5) (C := R_Mo) (T := T_Mo) (N := 16) hx hb hts in_Mo hown hK.k hP (i := 0) (by decide) md_0 rfl 10 (by decide) (hts _ kf_Mo_24) rfl d_Mo_append_353 ?_
    refine lv_aload_n hx hb d_Mo_append_356 rfl (lv_at hl 3 rfl) ?_
    refine nw_get (D := D) (ci := 5) (C := R_Mo) (T := T_Mo) (N := 16) hx hb hts in_Mo hown hK.k hP (i := 0) (by decide) md_0 rfl 13 (by decide) (hts _ kf_Mo_30) rfl d_Mo_append_357 ?_
    refine lv_eqi (y := nI b2) rfl ?_
    refine nw_iald hx hb hK.k hP (i := 5) (by decide) md_5 1 rfl (vp_in_nI (by omega) (by omega)) d_Mo_append_360 ?_
    refine lv_eqi (y := nI ((va_up co2 b2 (co2 b2 + 1)) b2)) (by rw [nI_clamp (by omega)]) ?_
    refine lv_eqi (y := nI (co2 b2 + 1)) (by rw [va_up_self]) ?_
    exact end_I F hr hlk rfl hP hS d_Mo_append_361
  have lp2 : ∀ (d u : Nat), u + d = tn → ∀ (H : Heap) (locs : List Loc) (ls : Array Slot), nw D vcl PM ad (mdC cy ad 0 false tp 0 (cutW w2 cp2) (cutP w2 cp2) cb we2 be2 lg2 co2 fi2 bn2 (some b2) (upN (mRM ro a kd mo k tn) (a + 9) tp u) fo) H → va_S (na PM ad s.heap.size) s.heap H locs → lv_has ls 8 [(7, .int (nI u)), (6, .int (nI a)), (5, .int (nI 0)), (4, .int (nI tn)), (0, .ref (ad 0)), (1, .int (nI kd)), (2, .int (nI mo)), (3, .int (nI k))] → W p l e RM s m [.ref (ad 0), .int (nI kd), .int (nI mo), .int (nI k)].toArray below meth c H locs 0 0 (MQ below (va_Qi (fun r' (_ : Unit) => r' = nI (co2 b2 + 1)) (fun _ t => nw D vcl PM ad (mdC cy ad 0 false tp 0 (cutW w2 cp2) (cutP w2 cp2) cb we2 be2 lg2 (va_up co2 b2 (co2 b2 + 1)) (va_up fi2 b2 (fi2 b2 + (9 + tn))) bn2 (some b2) (mRB ro a kd mo k tn tp) fo) t.heap) (na PM ad s.heap.size)) [.ref (ad 0), .int (nI kd), .int (nI mo), .int (nI k)].toArray s 0 0 (na PM ad s.heap.size)) (F0 m 289 ls []) := by
    intro d
    induction d with
    | zero =>
      intro u hu H locs ls hP hS hl
      obtain rfl : u = tn := by omega
      refine lv_iload hx hb d_Mo_append_289 (lv_at hl 0 rfl) ?_
      refine lv_iload hx hb d_Mo_append_291 (lv_at hl 3 rfl) ?_
      refine lv_icmp_ge (tgt := 322) hx hb d_Mo_append_293 (by decide) (fun c293 => ?_) (fun c293 => absurd ((nI_leI (by omega) (by omega)).mpr (by omega)) c293)
      exact fin _ _ _ hP hS (lv_sub hl [1, 2, 3, 4, 5, 6, 7] rfl)
    | succ d ihd =>
      intro u hu H locs ls hP hS hl
      refine lv_iload hx hb d_Mo_append_289 (lv_at hl 0 rfl) ?_
      refine lv_iload hx hb d_Mo_append_291 (lv_at hl 3 rfl) ?_
      refine lv_icmp_ge (tgt := 322) hx hb d_Mo_append_293 (by decide) (fun c293 => absurd c293 (fun z => absurd ((nI_leI (by omega) (by omega)).mp z) (by omega))) (fun c293 => ?_)
      refine lv_aload_n hx hb d_Mo_append_296 rfl (lv_at hl 4 rfl) ?_
      refine nw_get (D := D) (ci := 5) (C := R_Mo) (T := T_Mo) (N := 16) hx hb hts in_Mo hown hK.k hP (i := 0) (by decide) md_0 rfl 14 (by decide) (hts _ kf_Mo_35) rfl d_Mo_append_297 ?_
      refine lv_iload hx hb d_Mo_append_300 (lv_at hl 1 rfl) ?_
      refine lv_bipush (v := nI 9) hx hb d_Mo_append_302 (by decide) ?_
      refine lv_iadd hx hb d_Mo_append_304 ?_
      refine lv_eqi (nI_add _ _) ?_
      refine lv_iload hx hb d_Mo_append_305 (lv_at hl 0 rfl) ?_
      refine lv_iadd hx hb d_Mo_append_307 ?_
      refine lv_eqi (nI_add _ _) ?_
      refine lv_aload_n hx hb d_Mo_append_308 rfl (lv_at hl 4 rfl) ?_
      refine nw_get (D := D) (ci := 5) (C := R_Mo) (T := T_Mo) (N := 16) hx hb hts in_Mo hown hK.k hP (i := 0) (by decide) md_0 rfl 2 (by decide) (hts _ kf_Mo_7) rfl d_Mo_append_309 ?_
      refine lv_iload hx hb d_Mo_append_312 (lv_at hl 0 rfl) ?_
      refine nw_bald hx hb hK.k hP (i := 1) (by decide) md_1 0 rfl (vp_in_nI (by omega) (by omega)) d_Mo_append_314 ?_
      refine lv_eqi (y := sb_b (tp u)) (by rw [nI_clamp (by omega)]) ?_
      refine nw_bast hx hb hK.k hP hD hS (i := 7) (by decide) md_7 0 rfl (vp_in_nI (by omega) (by omega)) d_Mo_append_315 (fun H locs hP hS hz hq => ?_)
      rw [nI_clamp (by omega), sb_nb, by_upd] at hP
      have hP : nw D vcl PM ad (mdC cy ad 0 false tp 0 (cutW w2 cp2) (cutP w2 cp2) cb we2 be2 lg2 co2 fi2 bn2 (some b2) (upN (mRM ro a kd mo k tn) (a + 9) tp (u + 1)) fo) H := nw_congr hP (mdu_ro)
      refine lv_iinc (v := nI (u + 1)) (lv' := [(7, .int (nI (u + 1))), (6, .int (nI a)), (5, .int (nI 0)), (4, .int (nI tn)), (0, .ref (ad 0)), (1, .int (nI kd)), (2, .int (nI mo)), (3, .int (nI k))]) hx hb d_Mo_append_316 hl (k := 0) rfl (nI_inc _) (by decide) rfl (fun ls hl => ?_)
      refine lv_goto (tgt := 289) hx hb d_Mo_append_319 (by decide) ?_
      exact ihd (u + 1) (by omega) _ _ _ hP hS (lv_sub hl [0, 1, 2, 3, 4, 5, 6, 7] rfl)
  have lp1 : ∀ (d u : Nat), u + d = 4 → ∀ (H : Heap) (locs : List Loc) (ls : Array Slot), nw D vcl PM ad (mdC cy ad 0 false tp 0 (cutW w2 cp2) (cutP w2 cp2) cb we2 be2 lg2 co2 fi2 bn2 (some b2) (upN (mRH ro a kd k tn) (a + 4) (fun i => nb (nI mo) (3 - i)) u) fo) H → va_S (na PM ad s.heap.size) s.heap H locs → lv_has ls 8 [(7, .int (nI u)), (6, .int (nI a)), (5, .int (nI 0)), (4, .int (nI tn)), (0, .ref (ad 0)), (1, .int (nI kd)), (2, .int (nI mo)), (3, .int (nI k))] → W p l e RM s m [.ref (ad 0), .int (nI kd), .int (nI mo), .int (nI k)].toArray below meth c H locs 0 0 (MQ below (va_Qi (fun r' (_ : Unit) => r' = nI (co2 b2 + 1)) (fun _ t => nw D vcl PM ad (mdC cy ad 0 false tp 0 (cutW w2 cp2) (cutP w2 cp2) cb we2 be2 lg2 (va_up co2 b2 (co2 b2 + 1)) (va_up fi2 b2 (fi2 b2 + (9 + tn))) bn2 (some b2) (mRB ro a kd mo k tn tp) fo) t.heap) (na PM ad s.heap.size)) [.ref (ad 0), .int (nI kd), .int (nI mo), .int (nI k)].toArray s 0 0 (na PM ad s.heap.size)) (F0 m 251 ls []) := by
    intro d
    induction d with
    | zero =>
      intro u hu H locs ls hP hS hl
      obtain rfl : u = 4 := by omega
      refine lv_iload hx hb d_Mo_append_251 (lv_at hl 0 rfl) ?_
      refine lv_iconst (v := nI 4) hx hb d_Mo_append_253 (by decide) ?_
      refine lv_icmp_ge (tgt := 286) hx hb d_Mo_append_254 (by decide) (fun c254 => ?_) (fun c254 => absurd ((nI_leI (by omega) (by omega)).mpr (by omega)) c254)
      refine lv_iconst (v := nI 0) hx hb d_Mo_append_286 (by decide) ?_
      refine lv_istore (lv' := [(7, .int (nI 0)), (6, .int (nI a)), (5, .int (nI 0)), (4, .int (nI tn)), (0, .ref (ad 0)), (1, .int (nI kd)), (2, .int (nI mo)), (3, .int (nI k))]) hx hb d_Mo_append_287 hl (by decide) rfl (fun ls hl => ?_)
      exact lp2 tn 0 (by omega) _ _ _ hP hS (lv_sub hl [0, 1, 2, 3, 4, 5, 6, 7] rfl)
    | succ d ihd =>
      intro u hu H locs ls hP hS hl
      refine lv_iload hx hb d_Mo_append_251 (lv_at hl 0 rfl) ?_
      refine lv_iconst (v := nI 4) hx hb d_Mo_append_253 (by decide) ?_
      refine lv_icmp_ge (tgt := 286) hx hb d_Mo_append_254 (by decide) (fun c254 => absurd c254 (fun z => absurd ((nI_leI (by omega) (by omega)).mp z) (by omega))) (fun c254 => ?_)
      refine lv_aload_n hx hb d_Mo_append_257 rfl (lv_at hl 4 rfl) ?_
      refine nw_get (D := D) (ci := 5) (C := R_Mo) (T := T_Mo) (N := 16) hx hb hts in_Mo hown hK.k hP (i := 0) (by decide) md_0 rfl 14 (by decide) (hts _ kf_Mo_35) rfl d_Mo_append_258 ?_
      refine lv_iload hx hb d_Mo_append_261 (lv_at hl 1 rfl) ?_
      refine lv_iconst (v := nI 4) hx hb d_Mo_append_263 (by decide) ?_
      refine lv_iadd hx hb d_Mo_append_264 ?_
      refine lv_eqi (nI_add _ _) ?_
      refine lv_iload hx hb d_Mo_append_265 (lv_at hl 0 rfl) ?_
      refine lv_iadd hx hb d_Mo_append_267 ?_
      refine lv_eqi (nI_add _ _) ?_
      refine lv_iload_n hx hb d_Mo_append_268 rfl (lv_at hl 6 rfl) ?_
      refine lv_bipush (v := nI 24) hx hb d_Mo_append_269 (by decide) ?_
      refine lv_bipush (v := nI 8) hx hb d_Mo_append_271 (by decide) ?_
      refine lv_iload hx hb d_Mo_append_273 (lv_at hl 0 rfl) ?_
      refine lv_imul hx hb d_Mo_append_275 ?_
      refine lv_eqi (pk_mul _ _) ?_
      refine lv_isub hx hb d_Mo_append_276 ?_
      refine lv_eqi (pk_sub (by omega)) ?_
      refine lv_ishr hx hb d_Mo_append_277 ?_
      refine lv_i2b hx hb d_Mo_append_278 rfl ?_
      refine nw_bast hx hb hK.k hP hD hS (i := 7) (by decide) md_7 0 rfl (vp_in_nI (by omega) (by omega)) d_Mo_append_279 (fun H locs hP hS hz hq => ?_)
      rw [nI_clamp (by omega), sb_na, bof_sh _ (by omega), by_upd] at hP
      have hP : nw D vcl PM ad (mdC cy ad 0 false tp 0 (cutW w2 cp2) (cutP w2 cp2) cb we2 be2 lg2 co2 fi2 bn2 (some b2) (upN (mRH ro a kd k tn) (a + 4) (fun i => nb (nI mo) (3 - i)) (u + 1)) fo) H := nw_congr hP (mdu_ro)
      refine lv_iinc (v := nI (u + 1)) (lv' := [(7, .int (nI (u + 1))), (6, .int (nI a)), (5, .int (nI 0)), (4, .int (nI tn)), (0, .ref (ad 0)), (1, .int (nI kd)), (2, .int (nI mo)), (3, .int (nI k))]) hx hb d_Mo_append_280 hl (k := 0) rfl (nI_inc _) (by decide) rfl (fun ls hl => ?_)
      refine lv_goto (tgt := 251) hx hb d_Mo_append_283 (by decide) ?_
      exact ihd (u + 1) (by omega) _ _ _ hP hS (lv_sub hl [0, 1, 2, 3, 4, 5, 6, 7] rfl)
  exact lp1 4 0 (by omega) _ _ _ hP hS (lv_sub hl [0, 1, 2, 3, 4, 5, 6, 7] rfl)

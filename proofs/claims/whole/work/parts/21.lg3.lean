/-! TornLog$Log: writing a beginning, writing a record -/
def PB (pt : Nat → Nat) (bg : Nat) : Nat → Nat := va_up (up4 (va_up pt 0 90) 1 (nI (bg + 1))) 5 90
theorem up4_lt {g : Nat → Nat} {k : Nat} {v : Int32} {n : Nat} (h : ∀ j, j < n → j < k ∨ k + 4 ≤ j → g j < 256) : ∀ j, j < n → up4 g k v j < 256 := by
  intro j hj
  unfold up4 va_up
  have h1 := nb_lt v 0
  have h2 := nb_lt v 1
  have h3 := nb_lt v 2
  have h4 := nb_lt v 3
  by_cases e1 : j = k + 3
  · rw [if_pos e1]; exact h1
  · rw [if_neg e1]
    by_cases e2 : j = k + 2
    · rw [if_pos e2]; exact h2
    · rw [if_neg e2]
      by_cases e3 : j = k + 1
      · rw [if_pos e3]; exact h3
      · rw [if_neg e3]
        by_cases e4 : j = k
        · rw [if_pos e4]; exact h4
        · rw [if_neg e4]; exact h j hj (by omega)
theorem va_up_lt {g : Nat → Nat} {k v n : Nat} (hv : v < 256) (h : ∀ j, j < n → j ≠ k → g j < 256) : ∀ j, j < n → va_up g k v j < 256 := by
  intro j hj
  by_cases e : j = k
  · rw [e, va_up_self]; exact hv
  · rw [va_up_ne _ _ e]; exact h j hj e
theorem PB_lt {pt : Nat → Nat} {bg : Nat} : ∀ j, j < 6 → PB pt bg j < 256 := by
  refine va_up_lt (by omega) (fun j hj hne => ?_)
  refine up4_lt (n := 5) (fun j hj h => ?_) j (by omega)
  obtain rfl : j = 0 := by omega
  simp [va_up]
/-- a record's bytes -/
def RB (pt : Nat → Nat) (kd mo k tn : Nat) (tp : Nat → Nat) : Nat → Nat := va_up (upN (va_up (va_up (va_up (up4 (va_up pt 0 kd) 1 (nI mo)) 5 k) 6 ((tn - k) / 256)) 7 ((tn - k) % 256)) 8 tp tn) (8 + tn) 90
theorem RB_lt {pt tp : Nat → Nat} {kd mo k tn : Nat} (h1 : kd < 256) (h2 : k < 256) (h3 : tn - k < 65536) (ht : ∀ j, j < tn → tp j < 256) : ∀ j, j < 9 + tn → RB pt kd mo k tn tp j < 256 := by
  refine va_up_lt (by omega) (fun j hj hne => ?_)
  by_cases e : j < 8
  · rw [upN_lt e]
    refine va_up_lt (n := 8) (by omega) (fun j hj h7 => ?_) j e
    refine va_up_lt (n := 7) (by omega) (fun j hj h6 => ?_) j (by omega)
    refine va_up_lt (n := 6) (by omega) (fun j hj h5 => ?_) j (by omega)
    refine up4_lt (n := 5) (fun j hj h => ?_) j (by omega)
    obtain rfl : j = 0 := by omega
    rw [va_up_self]; exact h1
  · rw [show j = 8 + (j - 8) by omega, upN_in (by omega)]; exact ht _ (by omega)
theorem nb_c {n : Nat} (h : n < 2 ^ 31) : nb (nI n) 1 = n / 256 % 256 ∧ nb (nI n) 0 = n % 256 := by
  unfold nb
  rw [pk_tn (by omega)]
  constructor <;> simp
set_option maxRecDepth 100000 in
set_option maxHeartbeats 4000000 in
theorem c_Lg_writeBeginning (l : Launch) (D : va_G) (cy : Nat → ClassId) (ad : Nat → Nat) (b : Nat) (tp rw pt cn er rc re : Nat → Nat) (cg : Nat → Nat → Nat) (tn ln bg cp cb pn : Nat) (dn op w : Bool) (HC : ∀ b, b < 24 → cn b < 2 ^ 16) (HG : ∀ b, b < 24 → ∀ j, j < cn b → cg b j < 256) (hcp : cp < 2 ^ 31) (hcb : cb < 2 ^ 31) (hb24 : b < 24) (hcn : 6 ≤ cn b) (h255 : ∀ j, j < 6 → cg b j = 255) (hbg : bg < 2 ^ 30) : mtI l y_Lg_writeBeginning b_Lg_writeBeginning 2 (some .boolean) { frames := 3, cells := 0, slots := 0, locals := 74 } D cy [.ref (ad 3), .ref (ad (10 + b))] PT ad (tlC cy ad tp tn dn rw ln op bg w cp cb pt pn cn cg er rc re) (tlC cy ad tp tn dn rw ln op (bg + 1) (cutW w cp) (cutP w cp) cb (PB pt bg) 6 cn (va_up cg b (upN (cg b) 0 (PB pt bg) (cutN w cp cb 6))) er rc re) (bI (decide (cutN w cp cb 6 = 6))) := by
  intro sz
  refine nm_ofW (cc := b_Lg_writeBeginning) (maxL := 2) (ret := (some .boolean)) (own := R_Lg) (by decide) (Nat.le_of_ble_eq_true rfl) rfl ?_
  intro p e s m below meth c ls F hr hlk hnm hv hl
  obtain ⟨hx, hb, hml, hown, hts⟩ := id F
  obtain ⟨rfl, hP, hK, hI⟩ := hv
  have hD : nd (na PT ad s.heap.size) PT ad := nd_self hI
  have hA : ∀ q, s.heap.size ≤ q → na PT ad s.heap.size q := fun q h => Or.inr h
  have hS : va_S (na PT ad s.heap.size) s.heap s.heap [] := va_S.rf
  have hl : lv_has ls 2 [(0, .ref (ad 3)), (1, .ref (ad (10 + b)))] := hl
  have hc0 := HC _ hb24
  refine lv_aload_n hx hb d_Lg_writeBeginning_0 rfl (lv_at hl 0 rfl) ?_
  refine lv_dup hx hb d_Lg_writeBeginning_1 rfl ?_
  refine nw_get (D := D) (ci := 3) (C := R_Lg) (T := T_Lg) (N := 7) hx hb hts in_Lg hown hK.k hP (i := 3) (by decide) tl_3 rfl 4 (by decide) (hts _ kf_Lg_30) rfl d_Lg_writeBeginning_2 ?_
  refine lv_iconst (v := nI 1) hx hb d_Lg_writeBeginning_5 (by decide) ?_
  refine lv_iadd hx hb d_Lg_writeBeginning_6 ?_
  refine lv_eqi (nI_add _ _) ?_
  refine nw_put (D := D) (ci := 3) (C := R_Lg) (T := T_Lg) (N := 7) hx hb hts in_Lg ty_Lg tk_Lg nm_Lg hown hK.k hP hD hS (i := 3) (by decide) tl_3 rfl 4 (by decide) (hts _ kf_Lg_30) rfl rfl rfl (Nat.le_of_ble_eq_true rfl) d_Lg_writeBeginning_7 (fun H locs hP hS hz hq => ?_)
  have hP : nw D vcl PT ad (tlC cy ad tp tn dn rw ln op (bg + 1) w cp cb pt pn cn cg er rc re) H := nw_congr hP (tlu_bg)
  refine lv_aload_n hx hb d_Lg_writeBeginning_10 rfl (lv_at hl 0 rfl) ?_
  refine nw_get (D := D) (ci := 3) (C := R_Lg) (T := T_Lg) (N := 7) hx hb hts in_Lg hown hK.k hP (i := 3) (by decide) tl_3 rfl 6 (by decide) (hts _ kf_Lg_45) rfl d_Lg_writeBeginning_11 ?_
  refine lv_iconst (v := nI 0) hx hb d_Lg_writeBeginning_14 (by decide) ?_
  refine nw_putN (D := D) (ci := 1) (C := R_By) (T := T_By) (N := 2) hx hb hts in_By ty_By tk_By nm_By hown hK.k hP hD hS (i := 7) (by decide) tl_7 rfl 1 (by decide) (hK.nest 2 (by decide) rfl) rfl rfl rfl (Nat.le_of_ble_eq_true rfl) d_Lg_writeBeginning_15 (fun H locs hP hS hz hq => ?_)
  have hP : nw D vcl PT ad (tlC cy ad tp tn dn rw ln op (bg + 1) w cp cb pt 0 cn cg er rc re) H := nw_congr hP (tlu_pn)
  refine lv_aload_n hx hb d_Lg_writeBeginning_18 rfl (lv_at hl 0 rfl) ?_
  refine nw_get (D := D) (ci := 3) (C := R_Lg) (T := T_Lg) (N := 7) hx hb hts in_Lg hown hK.k hP (i := 3) (by decide) tl_3 rfl 6 (by decide) (hts _ kf_Lg_45) rfl d_Lg_writeBeginning_19 ?_
  refine lv_bipush (v := nI 90) hx hb d_Lg_writeBeginning_22 (by decide) ?_
  refine call_V (As := [.int (nI 90)]) (rest := []) F hK (by have z := c_By_add l D cy (fun i => ad (q_pt i)) 1054 (0) (pt) (nI 90) (by omega) (by omega); rw [show bof (nI 90) = 90 by decide] at z; exact z) km_Lg_88 ki_By_add ks_By_add k0_By kc_By_add kd_By_add ⟨Nat.le_of_ble_eq_true rfl, Nat.le_of_ble_eq_true rfl⟩ (nw_recv hK.k hP (i := 7) (by decide) tl_7 rfl) (nw_sub hP q_pt qs_pt) (qi_pt hD) hl.1 rfl (Nat.le_of_ble_eq_true rfl) d_Lg_writeBeginning_24 ⟨(Nat.le_of_ble_eq_true rfl), (Nat.le_of_ble_eq_true rfl)⟩ hS (na_sub hD hS hA q_pt qp_pt) (fun H1 locs1 hP1 hk1 hS => ?_)
  have hP : nw D vcl PT ad (tlC cy ad tp tn dn rw ln op (bg + 1) w cp cb (va_up pt 0 90) 1 cn cg er rc re) H1 := qj_pt hP hD hk1 hP1
  generalize H1 = H at hP hS ⊢
  refine lv_aload_n hx hb d_Lg_writeBeginning_27 rfl (lv_at hl 0 rfl) ?_
  refine nw_get (D := D) (ci := 3) (C := R_Lg) (T := T_Lg) (N := 7) hx hb hts in_Lg hown hK.k hP (i := 3) (by decide) tl_3 rfl 6 (by decide) (hts _ kf_Lg_45) rfl d_Lg_writeBeginning_28 ?_
  refine lv_aload_n hx hb d_Lg_writeBeginning_31 rfl (lv_at hl 0 rfl) ?_
  refine nw_get (D := D) (ci := 3) (C := R_Lg) (T := T_Lg) (N := 7) hx hb hts in_Lg hown hK.k hP (i := 3) (by decide) tl_3 rfl 4 (by decide) (hts _ kf_Lg_30) rfl d_Lg_writeBeginning_32 ?_
  refine call_V (As := [.int (nI (bg + 1))]) (rest := []) F hK (c_By_addInt l D cy (fun i => ad (q_pt i)) 1054 1 (va_up pt 0 90) (nI (bg + 1)) (by omega) (by omega)) km_Lg_91 ki_By_addInt ks_By_addInt k0_By kc_By_addInt kd_By_addInt ⟨Nat.le_of_ble_eq_true rfl, Nat.le_of_ble_eq_true rfl⟩ (nw_recv hK.k hP (i := 7) (by decide) tl_7 rfl) (nw_sub hP q_pt qs_pt) (qi_pt hD) hl.1 rfl (Nat.le_of_ble_eq_true rfl) d_Lg_writeBeginning_35 ⟨(Nat.le_of_ble_eq_true rfl), (Nat.le_of_ble_eq_true rfl)⟩ hS (na_sub hD hS hA q_pt qp_pt) (fun H1 locs1 hP1 hk1 hS => ?_)
  have hP : nw D vcl PT ad (tlC cy ad tp tn dn rw ln op (bg + 1) w cp cb (up4 (va_up pt 0 90) 1 (nI (bg + 1))) 5 cn cg er rc re) H1 := qj_pt hP hD hk1 hP1
  generalize H1 = H at hP hS ⊢
  refine lv_aload_n hx hb d_Lg_writeBeginning_38 rfl (lv_at hl 0 rfl) ?_
  refine nw_get (D := D) (ci := 3) (C := R_Lg) (T := T_Lg) (N := 7) hx hb hts in_Lg hown hK.k hP (i := 3) (by decide) tl_3 rfl 6 (by decide) (hts _ kf_Lg_45) rfl d_Lg_writeBeginning_39 ?_
  refine lv_bipush (v := nI 90) hx hb d_Lg_writeBeginning_42 (by decide) ?_
  refine call_V (As := [.int (nI 90)]) (rest := []) F hK (by have z := c_By_add l D cy (fun i => ad (q_pt i)) 1054 (5) (up4 (va_up pt 0 90) 1 (nI (bg + 1))) (nI 90) (by omega) (by omega); rw [show bof (nI 90) = 90 by decide] at z; exact z) km_Lg_88 ki_By_add ks_By_add k0_By kc_By_add kd_By_add ⟨Nat.le_of_ble_eq_true rfl, Nat.le_of_ble_eq_true rfl⟩ (nw_recv hK.k hP (i := 7) (by decide) tl_7 rfl) (nw_sub hP q_pt qs_pt) (qi_pt hD) hl.1 rfl (Nat.le_of_ble_eq_true rfl) d_Lg_writeBeginning_44 ⟨(Nat.le_of_ble_eq_true rfl), (Nat.le_of_ble_eq_true rfl)⟩ hS (na_sub hD hS hA q_pt qp_pt) (fun H1 locs1 hP1 hk1 hS => ?_)
  have hP : nw D vcl PT ad (tlC cy ad tp tn dn rw ln op (bg + 1) w cp cb (PB pt bg) 6 cn cg er rc re) H1 := qj_pt hP hD hk1 hP1
  generalize H1 = H at hP hS ⊢
  refine lv_aload_n hx hb d_Lg_writeBeginning_47 rfl (lv_at hl 1 rfl) ?_
  refine lv_iconst (v := nI 0) hx hb d_Lg_writeBeginning_48 (by decide) ?_
  refine lv_aload_n hx hb d_Lg_writeBeginning_49 rfl (lv_at hl 0 rfl) ?_
  refine nw_get (D := D) (ci := 3) (C := R_Lg) (T := T_Lg) (N := 7) hx hb hts in_Lg hown hK.k hP (i := 3) (by decide) tl_3 rfl 6 (by decide) (hts _ kf_Lg_45) rfl d_Lg_writeBeginning_50 ?_
  refine lv_aload_n hx hb d_Lg_writeBeginning_53 rfl (lv_at hl 0 rfl) ?_
  refine nw_get (D := D) (ci := 3) (C := R_Lg) (T := T_Lg) (N := 7) hx hb hts in_Lg hown hK.k hP (i := 3) (by decide) tl_3 rfl 5 (by decide) (hts _ kf_Lg_36) rfl d_Lg_writeBeginning_54 ?_
  refine call_I (As := [.int (nI 0), .ref (ad 7), .ref (ad 6)]) (rest := []) F hK (c_Bk_write l D cy (fun i => ad (q_wr b i)) 0 (cn b) (er b) (rc b) (re b) (cg b) hc0 (HG _ hb24) 1054 6 cp cb (PB pt bg) w (by omega) (by omega) (by omega) PB_lt hcp hcb (by omega) (fun j hj => by rw [Nat.zero_add]; exact h255 j hj)) km_Lg_94 ki_Bk_write ks_Bk_write k0_Bk kc_Bk_write kd_Bk_write ⟨Nat.le_of_ble_eq_true rfl, Nat.le_of_ble_eq_true rfl⟩ (nw_recv hK.k hP (i := 10 + b) (PT_b (by omega)) (tl_b (by omega)) rfl) (nw_sub hP (q_wr b) (qs_wr hb24)) (qi_wr hb24 hD) hl.1 rfl (Nat.le_of_ble_eq_true rfl) d_Lg_writeBeginning_57 ⟨(Nat.le_of_ble_eq_true rfl), (Nat.le_of_ble_eq_true rfl)⟩ hS (na_sub hD hS hA (q_wr b) (qp_wr hb24)) (fun H1 locs1 hP1 hk1 hS => ?_)
  have hP : nw D vcl PT ad (tlC cy ad tp tn dn rw ln op (bg + 1) (cutW w cp) (cutP w cp) cb (PB pt bg) 6 cn (va_up cg b (upN (cg b) 0 (PB pt bg) (cutN w cp cb 6))) er rc re) H1 := by have z := qj_wr hb24 hP hD hk1 hP1; simp only [va_up_id] at z; exact z
  generalize H1 = H at hP hS ⊢
  exact end_I F hr hlk (bI_nar _) hP hS d_Lg_writeBeginning_60
set_option maxRecDepth 100000 in
set_option maxHeartbeats 4000000 in
theorem c_Lg_writeRecord0 (l : Launch) (D : va_G) (cy : Nat → ClassId) (ad : Nat → Nat) (kd mo k : Nat) (tp rw pt cn er rc re : Nat → Nat) (cg : Nat → Nat → Nat) (tn ln bg cp cb pn : Nat) (dn op w : Bool) (HL : ln ≤ 24) (HR : ∀ i, i < ln → rw i < 24) (HC : ∀ b, b < 24 → cn b < 2 ^ 16) (HG : ∀ b, b < 24 → ∀ j, j < cn b → cg b j < 256) (HQ : ∀ b, b < 24 → rc b < 2 ^ 16 ∧ re b < 2 ^ 16) (hcp : cp < 2 ^ 31) (hcb : cb < 2 ^ 31) (hln : 0 < ln) (hop : op = true) (hroom : re (rw (ln - 1)) + (9 + tn) ≤ 2046) (hcn : 2046 ≤ cn (rw (ln - 1))) (h255 : ∀ j, j < 9 + tn → cg (rw (ln - 1)) (re (rw (ln - 1)) + j) = 255) (hkd : kd < 256) (hk : k < 256) (hkt : k ≤ tn) (htn : tn ≤ 1045) (hmo : mo < 2 ^ 31) (htp : ∀ j, j < tn → tp j < 256) (hdn : cutN w cp cb (9 + tn) ≠ 9 + tn) : mtI l y_Lg_writeRecord b_Lg_writeRecord 7 (some .boolean) { frames := 3, cells := 0, slots := 0, locals := 74 } D cy [.ref (ad 3), .int (nI kd), .int (nI mo), .int (nI k), .ref (ad 1)] PT ad (tlC cy ad tp tn dn rw ln op bg w cp cb pt pn cn cg er rc re) (tlC cy ad tp tn dn rw ln op bg (cutW w cp) (cutP w cp) cb (RB pt kd mo k tn tp) (9 + tn) cn (va_up cg (rw (ln - 1)) (upN (cg (rw (ln - 1))) (re (rw (ln - 1))) (RB pt kd mo k tn tp) (cutN w cp cb (9 + tn)))) er rc re) (bI false) := by
  intro sz
  refine nm_ofW (cc := b_Lg_writeRecord) (maxL := 7) (ret := (some .boolean)) (own := R_Lg) (by decide) (Nat.le_of_ble_eq_true rfl) rfl ?_
  intro p e s m below meth c ls F hr hlk hnm hv hl
  obtain ⟨hx, hb, hml, hown, hts⟩ := id F
  obtain ⟨rfl, hP, hK, hI⟩ := hv
  have hD : nd (na PT ad s.heap.size) PT ad := nd_self hI
  have hA : ∀ q, s.heap.size ≤ q → na PT ad s.heap.size q := fun q h => Or.inr h
  have hS : va_S (na PT ad s.heap.size) s.heap s.heap [] := va_S.rf
  have hl : lv_has ls 7 [(0, .ref (ad 3)), (1, .int (nI kd)), (2, .int (nI mo)), (3, .int (nI k)), (4, .ref (ad 1))] := hl
  have hb0 := HR (ln - 1) (by omega)
  have hc0 := HC _ hb0
  have hq0 := HQ _ hb0
  refine lv_aload_n hx hb d_Lg_writeRecord_0 rfl (lv_at hl 0 rfl) ?_
  refine lv_bipush (v := nI 9) hx hb d_Lg_writeRecord_1 (by decide) ?_
  refine lv_aload hx hb d_Lg_writeRecord_3 (lv_at hl 4 rfl) ?_
  refine nw_getN (D := D) (ci := 1) (C := R_By) (T := T_By) (N := 2) hx hb hts in_By hown hK.k hP (i := 1) (by decide) tl_1 rfl 1 (by decide) (hK.nest 2 (by decide) rfl) rfl d_Lg_writeRecord_5 ?_
  refine lv_iadd hx hb d_Lg_writeRecord_8 ?_
  refine lv_eqi (nI_add _ _) ?_
  refine call_R (As := [.int (nI (9 + tn))]) (rest := []) F hK (c_Lg_hasRoom l D cy ad (9 + tn) tp rw pt cn er rc re cg tn ln bg cp cb pn dn op w HL HR HC HG HQ (by omega)) km_Lg_98 ki_Lg_hasRoom ks_Lg_hasRoom k0_Lg kc_Lg_hasRoom kd_Lg_hasRoom ⟨Nat.le_of_ble_eq_true rfl, Nat.le_of_ble_eq_true rfl⟩ (nw_recv hK.k hP (i := 3) (by decide) tl_3 rfl) (hP) (hI) hl.1 rfl (Nat.le_of_ble_eq_true rfl) d_Lg_writeRecord_9 ⟨(Nat.le_of_ble_eq_true rfl), (Nat.le_of_ble_eq_true rfl)⟩ hS (fun H1 locs1 hN hS => ?_)
  have hP := hN _ _ _ hP
  generalize H1 = H at hP hS ⊢
  refine lv_eqi (y := bI true) (by rw [hop, decide_eq_true (show 0 < ln from hln), decide_eq_true hroom]; rfl) ?_
  refine lv_if_ne (tgt := 17) hx hb d_Lg_writeRecord_12 (by decide) (fun c12 => ?_) (fun c12 => absurd c12 (show bI true = 0 → False from fun z => absurd z (by decide)))
  refine lv_aload hx hb d_Lg_writeRecord_17 (lv_at hl 4 rfl) ?_
  refine nw_getN (D := D) (ci := 1) (C := R_By) (T := T_By) (N := 2) hx hb hts in_By hown hK.k hP (i := 1) (by decide) tl_1 rfl 1 (by decide) (hK.nest 2 (by decide) rfl) rfl d_Lg_writeRecord_19 ?_
  refine lv_iload_n hx hb d_Lg_writeRecord_22 rfl (lv_at hl 3 rfl) ?_
  refine lv_isub hx hb d_Lg_writeRecord_23 ?_
  refine lv_eqi (pk_sub (by omega)) ?_
  refine lv_istore (lv' := [(5, .int (nI (tn - k))), (0, .ref (ad 3)), (1, .int (nI kd)), (2, .int (nI mo)), (3, .int (nI k)), (4, .ref (ad 1))]) hx hb d_Lg_writeRecord_24 hl (by decide) rfl (fun ls hl => ?_)
  refine lv_aload_n hx hb d_Lg_writeRecord_26 rfl (lv_at hl 1 rfl) ?_
  refine nw_get (D := D) (ci := 3) (C := R_Lg) (T := T_Lg) (N := 7) hx hb hts in_Lg hown hK.k hP (i := 3) (by decide) tl_3 rfl 6 (by decide) (hts _ kf_Lg_45) rfl d_Lg_writeRecord_27 ?_
  refine lv_iconst (v := nI 0) hx hb d_Lg_writeRecord_30 (by decide) ?_
  refine nw_putN (D := D) (ci := 1) (C := R_By) (T := T_By) (N := 2) hx hb hts in_By ty_By tk_By nm_By hown hK.k hP hD hS (i := 7) (by decide) tl_7 rfl 1 (by decide) (hK.nest 2 (by decide) rfl) rfl rfl rfl (Nat.le_of_ble_eq_true rfl) d_Lg_writeRecord_31 (fun H locs hP hS hz hq => ?_)
  have hP : nw D vcl PT ad (tlC cy ad tp tn dn rw ln op bg w cp cb pt 0 cn cg er rc re) H := nw_congr hP (tlu_pn)
  refine lv_aload_n hx hb d_Lg_writeRecord_34 rfl (lv_at hl 1 rfl) ?_
  refine nw_get (D := D) (ci := 3) (C := R_Lg) (T := T_Lg) (N := 7) hx hb hts in_Lg hown hK.k hP (i := 3) (by decide) tl_3 rfl 6 (by decide) (hts _ kf_Lg_45) rfl d_Lg_writeRecord_35 ?_
  refine lv_iload_n hx hb d_Lg_writeRecord_38 rfl (lv_at hl 2 rfl) ?_
  refine call_V (As := [.int (nI kd)]) (rest := []) F hK (by have z := c_By_add l D cy (fun i => ad (q_pt i)) 1054 (0) (pt) (nI kd) (by omega) (by omega); rw [show bof (nI kd) = kd by rw [bof_nI (by omega)]; omega] at z; exact z) km_Lg_88 ki_By_add ks_By_add k0_By kc_By_add kd_By_add ⟨Nat.le_of_ble_eq_true rfl, Nat.le_of_ble_eq_true rfl⟩ (nw_recv hK.k hP (i := 7) (by decide) tl_7 rfl) (nw_sub hP q_pt qs_pt) (qi_pt hD) hl.1 rfl (Nat.le_of_ble_eq_true rfl) d_Lg_writeRecord_39 ⟨(Nat.le_of_ble_eq_true rfl), (Nat.le_of_ble_eq_true rfl)⟩ hS (na_sub hD hS hA q_pt qp_pt) (fun H1 locs1 hP1 hk1 hS => ?_)
  have hP : nw D vcl PT ad (tlC cy ad tp tn dn rw ln op bg w cp cb (va_up pt 0 kd) 1 cn cg er rc re) H1 := qj_pt hP hD hk1 hP1
  generalize H1 = H at hP hS ⊢
  refine lv_aload_n hx hb d_Lg_writeRecord_42 rfl (lv_at hl 1 rfl) ?_
  refine nw_get (D := D) (ci := 3) (C := R_Lg) (T := T_Lg) (N := 7) hx hb hts in_Lg hown hK.k hP (i := 3) (by decide) tl_3 rfl 6 (by decide) (hts _ kf_Lg_45) rfl d_Lg_writeRecord_43 ?_
  refine lv_iload_n hx hb d_Lg_writeRecord_46 rfl (lv_at hl 3 rfl) ?_
  refine call_V (As := [.int (nI mo)]) (rest := []) F hK (c_By_addInt l D cy (fun i => ad (q_pt i)) 1054 1 (va_up pt 0 kd) (nI mo) (by omega) (by omega)) km_Lg_91 ki_By_addInt ks_By_addInt k0_By kc_By_addInt kd_By_addInt ⟨Nat.le_of_ble_eq_true rfl, Nat.le_of_ble_eq_true rfl⟩ (nw_recv hK.k hP (i := 7) (by decide) tl_7 rfl) (nw_sub hP q_pt qs_pt) (qi_pt hD) hl.1 rfl (Nat.le_of_ble_eq_true rfl) d_Lg_writeRecord_47 ⟨(Nat.le_of_ble_eq_true rfl), (Nat.le_of_ble_eq_true rfl)⟩ hS (na_sub hD hS hA q_pt qp_pt) (fun H1 locs1 hP1 hk1 hS => ?_)
  have hP : nw D vcl PT ad (tlC cy ad tp tn dn rw ln op bg w cp cb (up4 (va_up pt 0 kd) 1 (nI mo)) 5 cn cg er rc re) H1 := qj_pt hP hD hk1 hP1
  generalize H1 = H at hP hS ⊢
  refine lv_aload_n hx hb d_Lg_writeRecord_50 rfl (lv_at hl 1 rfl) ?_
  refine nw_get (D := D) (ci := 3) (C := R_Lg) (T := T_Lg) (N := 7) hx hb hts in_Lg hown hK.k hP (i := 3) (by decide) tl_3 rfl 6 (by decide) (hts _ kf_Lg_45) rfl d_Lg_writeRecord_51 ?_
  refine lv_iload_n hx hb d_Lg_writeRecord_54 rfl (lv_at hl 4 rfl) ?_
  refine call_V (As := [.int (nI k)]) (rest := []) F hK (by have z := c_By_add l D cy (fun i => ad (q_pt i)) 1054 (5) (up4 (va_up pt 0 kd) 1 (nI mo)) (nI k) (by omega) (by omega); rw [show bof (nI k) = k by rw [bof_nI (by omega)]; omega] at z; exact z) km_Lg_88 ki_By_add ks_By_add k0_By kc_By_add kd_By_add ⟨Nat.le_of_ble_eq_true rfl, Nat.le_of_ble_eq_true rfl⟩ (nw_recv hK.k hP (i := 7) (by decide) tl_7 rfl) (nw_sub hP q_pt qs_pt) (qi_pt hD) hl.1 rfl (Nat.le_of_ble_eq_true rfl) d_Lg_writeRecord_55 ⟨(Nat.le_of_ble_eq_true rfl), (Nat.le_of_ble_eq_true rfl)⟩ hS (na_sub hD hS hA q_pt qp_pt) (fun H1 locs1 hP1 hk1 hS => ?_)
  have hP : nw D vcl PT ad (tlC cy ad tp tn dn rw ln op bg w cp cb (va_up (up4 (va_up pt 0 kd) 1 (nI mo)) 5 k) 6 cn cg er rc re) H1 := qj_pt hP hD hk1 hP1
  generalize H1 = H at hP hS ⊢
  refine lv_aload_n hx hb d_Lg_writeRecord_58 rfl (lv_at hl 1 rfl) ?_
  refine nw_get (D := D) (ci := 3) (C := R_Lg) (T := T_Lg) (N := 7) hx hb hts in_Lg hown hK.k hP (i := 3) (by decide) tl_3 rfl 6 (by decide) (hts _ kf_Lg_45) rfl d_Lg_writeRecord_59 ?_
  refine lv_iload hx hb d_Lg_writeRecord_62 (lv_at hl 0 rfl) ?_
  refine lv_bipush (v := nI 8) hx hb d_Lg_writeRecord_64 (by decide) ?_
  refine lv_ishr hx hb d_Lg_writeRecord_66 ?_
  refine call_V (As := [.int ((nI (tn - k)) >>> ((nI 8) &&& 31))]) (rest := []) F hK (by have z := c_By_add l D cy (fun i => ad (q_pt i)) 1054 (6) (va_up (up4 (va_up pt 0 kd) 1 (nI mo)) 5 k) ((nI (tn - k)) >>> ((nI 8) &&& 31)) (by omega) (by omega); rw [show bof ((nI (tn - k)) >>> ((nI 8) &&& 31)) = (tn - k) / 256 by rw [bof_8, (nb_c (by omega)).1]; omega] at z; exact z) km_Lg_88 ki_By_add ks_By_add k0_By kc_By_add kd_By_add ⟨Nat.le_of_ble_eq_true rfl, Nat.le_of_ble_eq_true rfl⟩ (nw_recv hK.k hP (i := 7) (by decide) tl_7 rfl) (nw_sub hP q_pt qs_pt) (qi_pt hD) hl.1 rfl (Nat.le_of_ble_eq_true rfl) d_Lg_writeRecord_67 ⟨(Nat.le_of_ble_eq_true rfl), (Nat.le_of_ble_eq_true rfl)⟩ hS (na_sub hD hS hA q_pt qp_pt) (fun H1 locs1 hP1 hk1 hS => ?_)
  have hP : nw D vcl PT ad (tlC cy ad tp tn dn rw ln op bg w cp cb (va_up (va_up (up4 (va_up pt 0 kd) 1 (nI mo)) 5 k) 6 ((tn - k) / 256)) 7 cn cg er rc re) H1 := qj_pt hP hD hk1 hP1
  generalize H1 = H at hP hS ⊢
  refine lv_aload_n hx hb d_Lg_writeRecord_70 rfl (lv_at hl 1 rfl) ?_
  refine nw_get (D := D) (ci := 3) (C := R_Lg) (T := T_Lg) (N := 7) hx hb hts in_Lg hown hK.k hP (i := 3) (by decide) tl_3 rfl 6 (by decide) (hts _ kf_Lg_45) rfl d_Lg_writeRecord_71 ?_
  refine lv_iload hx hb d_Lg_writeRecord_74 (lv_at hl 0 rfl) ?_
  refine call_V (As := [.int (nI (tn - k))]) (rest := []) F hK (by have z := c_By_add l D cy (fun i => ad (q_pt i)) 1054 (7) (va_up (va_up (up4 (va_up pt 0 kd) 1 (nI mo)) 5 k) 6 ((tn - k) / 256)) (nI (tn - k)) (by omega) (by omega); rw [show bof (nI (tn - k)) = (tn - k) % 256 by rw [bof_nI (by omega)]] at z; exact z) km_Lg_88 ki_By_add ks_By_add k0_By kc_By_add kd_By_add ⟨Nat.le_of_ble_eq_true rfl, Nat.le_of_ble_eq_true rfl⟩ (nw_recv hK.k hP (i := 7) (by decide) tl_7 rfl) (nw_sub hP q_pt qs_pt) (qi_pt hD) hl.1 rfl (Nat.le_of_ble_eq_true rfl) d_Lg_writeRecord_76 ⟨(Nat.le_of_ble_eq_true rfl), (Nat.le_of_ble_eq_true rfl)⟩ hS (na_sub hD hS hA q_pt qp_pt) (fun H1 locs1 hP1 hk1 hS => ?_)
  have hP : nw D vcl PT ad (tlC cy ad tp tn dn rw ln op bg w cp cb (va_up (va_up (va_up (up4 (va_up pt 0 kd) 1 (nI mo)) 5 k) 6 ((tn - k) / 256)) 7 ((tn - k) % 256)) 8 cn cg er rc re) H1 := qj_pt hP hD hk1 hP1
  generalize H1 = H at hP hS ⊢
  refine lv_aload_n hx hb d_Lg_writeRecord_79 rfl (lv_at hl 1 rfl) ?_
  refine nw_get (D := D) (ci := 3) (C := R_Lg) (T := T_Lg) (N := 7) hx hb hts in_Lg hown hK.k hP (i := 3) (by decide) tl_3 rfl 6 (by decide) (hts _ kf_Lg_45) rfl d_Lg_writeRecord_80 ?_
  refine lv_aload hx hb d_Lg_writeRecord_83 (lv_at hl 5 rfl) ?_
  refine call_V (As := [.ref (ad 1)]) (rest := []) F hK (c_By_addAll l D cy (fun i => ad (q_pa i)) 1054 8 1060 tn (va_up (va_up (va_up (up4 (va_up pt 0 kd) 1 (nI mo)) 5 k) 6 ((tn - k) / 256)) 7 ((tn - k) % 256)) tp (by omega) (by omega) (by omega) (by omega) htp) km_Lg_99 ki_By_addAll ks_By_addAll k0_By kc_By_addAll kd_By_addAll ⟨Nat.le_of_ble_eq_true rfl, Nat.le_of_ble_eq_true rfl⟩ (nw_recv hK.k hP (i := 7) (by decide) tl_7 rfl) (nw_sub hP q_pa qs_pa) (qi_pa hD) hl.1 rfl (Nat.le_of_ble_eq_true rfl) d_Lg_writeRecord_85 ⟨(Nat.le_of_ble_eq_true rfl), (Nat.le_of_ble_eq_true rfl)⟩ hS (na_sub hD hS hA q_pa qp_pa) (fun H1 locs1 hP1 hk1 hS => ?_)
  have hP : nw D vcl PT ad (tlC cy ad tp tn dn rw ln op bg w cp cb (upN (va_up (va_up (va_up (up4 (va_up pt 0 kd) 1 (nI mo)) 5 k) 6 ((tn - k) / 256)) 7 ((tn - k) % 256)) 8 tp tn) (8 + tn) cn cg er rc re) H1 := qj_pa hP hD hk1 hP1
  generalize H1 = H at hP hS ⊢
  refine lv_aload_n hx hb d_Lg_writeRecord_88 rfl (lv_at hl 1 rfl) ?_
  refine nw_get (D := D) (ci := 3) (C := R_Lg) (T := T_Lg) (N := 7) hx hb hts in_Lg hown hK.k hP (i := 3) (by decide) tl_3 rfl 6 (by decide) (hts _ kf_Lg_45) rfl d_Lg_writeRecord_89 ?_
  refine lv_bipush (v := nI 90) hx hb d_Lg_writeRecord_92 (by decide) ?_
  refine call_V (As := [.int (nI 90)]) (rest := []) F hK (by have z := c_By_add l D cy (fun i => ad (q_pt i)) 1054 (8 + tn) (upN (va_up (va_up (va_up (up4 (va_up pt 0 kd) 1 (nI mo)) 5 k) 6 ((tn - k) / 256)) 7 ((tn - k) % 256)) 8 tp tn) (nI 90) (by omega) (by omega); rw [show bof (nI 90) = 90 by decide, show 8 + tn + 1 = 9 + tn by omega] at z; exact z) km_Lg_88 ki_By_add ks_By_add k0_By kc_By_add kd_By_add ⟨Nat.le_of_ble_eq_true rfl, Nat.le_of_ble_eq_true rfl⟩ (nw_recv hK.k hP (i := 7) (by decide) tl_7 rfl) (nw_sub hP q_pt qs_pt) (qi_pt hD) hl.1 rfl (Nat.le_of_ble_eq_true rfl) d_Lg_writeRecord_94 ⟨(Nat.le_of_ble_eq_true rfl), (Nat.le_of_ble_eq_true rfl)⟩ hS (na_sub hD hS hA q_pt qp_pt) (fun H1 locs1 hP1 hk1 hS => ?_)
  have hP : nw D vcl PT ad (tlC cy ad tp tn dn rw ln op bg w cp cb (RB pt kd mo k tn tp) (9 + tn) cn cg er rc re) H1 := qj_pt hP hD hk1 hP1
  generalize H1 = H at hP hS ⊢
  refine lv_aload_n hx hb d_Lg_writeRecord_97 rfl (lv_at hl 1 rfl) ?_
  refine lv_aload_n hx hb d_Lg_writeRecord_98 rfl (lv_at hl 1 rfl) ?_
  refine nw_get (D := D) (ci := 3) (C := R_Lg) (T := T_Lg) (N := 7) hx hb hts in_Lg hown hK.k hP (i := 3) (by decide) tl_3 rfl 2 (by decide) (hts _ kf_Lg_22) rfl d_Lg_writeRecord_99 ?_
  refine lv_iconst (v := nI 1) hx hb d_Lg_writeRecord_102 (by decide) ?_
  refine lv_isub hx hb d_Lg_writeRecord_103 ?_
  refine lv_eqi (pk_sub (by omega)) ?_
  refine call_A (As := [.int (nI (ln - 1))]) (rest := []) F hK (c_Lg_block l D cy ad (ln - 1) tp rw (RB pt kd mo k tn tp) cn er rc re cg tn ln bg cp cb (9 + tn) dn op w HL HR (by omega)) km_Lg_49 ki_Lg_block ks_Lg_block k0_Lg kc_Lg_block kd_Lg_block ⟨Nat.le_of_ble_eq_true rfl, Nat.le_of_ble_eq_true rfl⟩ (nw_recv hK.k hP (i := 3) (by decide) tl_3 rfl) (hP) (hI) hl.1 rfl (Nat.le_of_ble_eq_true rfl) d_Lg_writeRecord_104 ⟨(Nat.le_of_ble_eq_true rfl), (Nat.le_of_ble_eq_true rfl)⟩ hS (fun H1 locs1 hN hS => ?_)
  have hP := hN _ _ _ hP
  generalize H1 = H at hP hS ⊢
  refine lv_astore (lv' := [(6, .ref (ad (10 + (rw (ln - 1))))), (5, .int (nI (tn - k))), (0, .ref (ad 3)), (1, .int (nI kd)), (2, .int (nI mo)), (3, .int (nI k)), (4, .ref (ad 1))]) hx hb d_Lg_writeRecord_107 hl (by decide) rfl (fun ls hl => ?_)
  refine lv_aload hx hb d_Lg_writeRecord_109 (lv_at hl 0 rfl) ?_
  refine lv_aload hx hb d_Lg_writeRecord_111 (lv_at hl 0 rfl) ?_
  refine nw_getN (D := D) (ci := 0) (C := R_Bk) (T := T_Bk) (N := 5) hx hb hts in_Bk hown hK.k hP (i := 10 + (rw (ln - 1))) (PT_b (by omega)) (tl_b (by omega)) rfl 4 (by decide) (hK.nest 6 (by decide) rfl) rfl d_Lg_writeRecord_113 ?_
  refine lv_aload_n hx hb d_Lg_writeRecord_116 rfl (lv_at hl 2 rfl) ?_
  refine nw_get (D := D) (ci := 3) (C := R_Lg) (T := T_Lg) (N := 7) hx hb hts in_Lg hown hK.k hP (i := 3) (by decide) tl_3 rfl 6 (by decide) (hts _ kf_Lg_45) rfl d_Lg_writeRecord_117 ?_
  refine lv_aload_n hx hb d_Lg_writeRecord_120 rfl (lv_at hl 2 rfl) ?_
  refine nw_get (D := D) (ci := 3) (C := R_Lg) (T := T_Lg) (N := 7) hx hb hts in_Lg hown hK.k hP (i := 3) (by decide) tl_3 rfl 5 (by decide) (hts _ kf_Lg_36) rfl d_Lg_writeRecord_121 ?_
  refine call_I (As := [.int (nI (re ((rw (ln - 1))))), .ref (ad 7), .ref (ad 6)]) (rest := []) F hK (c_Bk_write l D cy (fun i => ad (q_wr (rw (ln - 1)) i)) (re (rw (ln - 1))) (cn (rw (ln - 1))) (er (rw (ln - 1))) (rc (rw (ln - 1))) (re (rw (ln - 1))) (cg (rw (ln - 1))) hc0 (HG _ hb0) 1054 (9 + tn) cp cb (RB pt kd mo k tn tp) w (by omega) (by omega) (by omega) (RB_lt hkd hk (by omega) htp) hcp hcb (by omega) h255) km_Lg_94 ki_Bk_write ks_Bk_write k0_Bk kc_Bk_write kd_Bk_write ⟨Nat.le_of_ble_eq_true rfl, Nat.le_of_ble_eq_true rfl⟩ (nw_recv hK.k hP (i := 10 + (rw (ln - 1))) (PT_b (by omega)) (tl_b (by omega)) rfl) (nw_sub hP (q_wr (rw (ln - 1))) (qs_wr hb0)) (qi_wr hb0 hD) hl.1 rfl (Nat.le_of_ble_eq_true rfl) d_Lg_writeRecord_124 ⟨(Nat.le_of_ble_eq_true rfl), (Nat.le_of_ble_eq_true rfl)⟩ hS (na_sub hD hS hA (q_wr (rw (ln - 1))) (qp_wr hb0)) (fun H1 locs1 hP1 hk1 hS => ?_)
  have hP : nw D vcl PT ad (tlC cy ad tp tn dn rw ln op bg (cutW w cp) (cutP w cp) cb (RB pt kd mo k tn tp) (9 + tn) cn (va_up cg (rw (ln - 1)) (upN (cg (rw (ln - 1))) (re (rw (ln - 1))) (RB pt kd mo k tn tp) (cutN w cp cb (9 + tn)))) er rc re) H1 := by have z := qj_wr hb0 hP hD hk1 hP1; simp only [va_up_id] at z; exact z
  generalize H1 = H at hP hS ⊢
  refine lv_eqi (y := bI false) (by rw [decide_eq_false hdn]) ?_
  refine lv_if_ne (tgt := 132) hx hb d_Lg_writeRecord_127 (by decide) (fun c127 => absurd (show bI false = 0 by decide) c127) (fun c127 => ?_)
  refine lv_iconst (v := nI 0) hx hb d_Lg_writeRecord_130 (by decide) ?_
  exact end_I F hr hlk rfl hP hS d_Lg_writeRecord_131
set_option maxRecDepth 100000 in
set_option maxHeartbeats 4000000 in
theorem c_Lg_writeRecord1 (l : Launch) (D : va_G) (cy : Nat → ClassId) (ad : Nat → Nat) (kd mo k : Nat) (tp rw pt cn er rc re : Nat → Nat) (cg : Nat → Nat → Nat) (tn ln bg cp cb pn : Nat) (dn op w : Bool) (HL : ln ≤ 24) (HR : ∀ i, i < ln → rw i < 24) (HC : ∀ b, b < 24 → cn b < 2 ^ 16) (HG : ∀ b, b < 24 → ∀ j, j < cn b → cg b j < 256) (HQ : ∀ b, b < 24 → rc b < 2 ^ 16 ∧ re b < 2 ^ 16) (hcp : cp < 2 ^ 31) (hcb : cb < 2 ^ 31) (hln : 0 < ln) (hop : op = true) (hroom : re (rw (ln - 1)) + (9 + tn) ≤ 2046) (hcn : 2046 ≤ cn (rw (ln - 1))) (h255 : ∀ j, j < 9 + tn → cg (rw (ln - 1)) (re (rw (ln - 1)) + j) = 255) (hkd : kd < 256) (hk : k < 256) (hkt : k ≤ tn) (htn : tn ≤ 1045) (hmo : mo < 2 ^ 31) (htp : ∀ j, j < tn → tp j < 256) (hdn : cutN w cp cb (9 + tn) = 9 + tn) : mtI l y_Lg_writeRecord b_Lg_writeRecord 7 (some .boolean) { frames := 3, cells := 0, slots := 0, locals := 74 } D cy [.ref (ad 3), .int (nI kd), .int (nI mo), .int (nI k), .ref (ad 1)] PT ad (tlC cy ad tp tn dn rw ln op bg w cp cb pt pn cn cg er rc re) (tlC cy ad tp tn dn rw ln op bg (cutW w cp) (cutP w cp) cb (RB pt kd mo k tn tp) (9 + tn) cn (va_up cg (rw (ln - 1)) (upN (cg (rw (ln - 1))) (re (rw (ln - 1))) (RB pt kd mo k tn tp) (9 + tn))) er (va_up rc (rw (ln - 1)) (rc (rw (ln - 1)) + 1)) (va_up re (rw (ln - 1)) (re (rw (ln - 1)) + (9 + tn)))) (bI true) := by
  intro sz
  refine nm_ofW (cc := b_Lg_writeRecord) (maxL := 7) (ret := (some .boolean)) (own := R_Lg) (by decide) (Nat.le_of_ble_eq_true rfl) rfl ?_
  intro p e s m below meth c ls F hr hlk hnm hv hl
  obtain ⟨hx, hb, hml, hown, hts⟩ := id F
  obtain ⟨rfl, hP, hK, hI⟩ := hv
  have hD : nd (na PT ad s.heap.size) PT ad := nd_self hI
  have hA : ∀ q, s.heap.size ≤ q → na PT ad s.heap.size q := fun q h => Or.inr h
  have hS : va_S (na PT ad s.heap.size) s.heap s.heap [] := va_S.rf
  have hl : lv_has ls 7 [(0, .ref (ad 3)), (1, .int (nI kd)), (2, .int (nI mo)), (3, .int (nI k)), (4, .ref (ad 1))] := hl
  have hb0 := HR (ln - 1) (by omega)
  have hc0 := HC _ hb0
  have hq0 := HQ _ hb0
  refine lv_aload_n hx hb d_Lg_writeRecord_0 rfl (lv_at hl 0 rfl) ?_
  refine lv_bipush (v := nI 9) hx hb d_Lg_writeRecord_1 (by decide) ?_
  refine lv_aload hx hb d_Lg_writeRecord_3 (lv_at hl 4 rfl) ?_
  refine nw_getN (D := D) (ci := 1) (C := R_By) (T := T_By) (N := 2) hx hb hts in_By hown hK.k hP (i := 1) (by decide) tl_1 rfl 1 (by decide) (hK.nest 2 (by decide) rfl) rfl d_Lg_writeRecord_5 ?_
  refine lv_iadd hx hb d_Lg_writeRecord_8 ?_
  refine lv_eqi (nI_add _ _) ?_
  refine call_R (As := [.int (nI (9 + tn))]) (rest := []) F hK (c_Lg_hasRoom l D cy ad (9 + tn) tp rw pt cn er rc re cg tn ln bg cp cb pn dn op w HL HR HC HG HQ (by omega)) km_Lg_98 ki_Lg_hasRoom ks_Lg_hasRoom k0_Lg kc_Lg_hasRoom kd_Lg_hasRoom ⟨Nat.le_of_ble_eq_true rfl, Nat.le_of_ble_eq_true rfl⟩ (nw_recv hK.k hP (i := 3) (by decide) tl_3 rfl) (hP) (hI) hl.1 rfl (Nat.le_of_ble_eq_true rfl) d_Lg_writeRecord_9 ⟨(Nat.le_of_ble_eq_true rfl), (Nat.le_of_ble_eq_true rfl)⟩ hS (fun H1 locs1 hN hS => ?_)
  have hP := hN _ _ _ hP
  generalize H1 = H at hP hS ⊢
  refine lv_eqi (y := bI true) (by rw [hop, decide_eq_true (show 0 < ln from hln), decide_eq_true hroom]; rfl) ?_
  refine lv_if_ne (tgt := 17) hx hb d_Lg_writeRecord_12 (by decide) (fun c12 => ?_) (fun c12 => absurd c12 (show bI true = 0 → False from fun z => absurd z (by decide)))
  refine lv_aload hx hb d_Lg_writeRecord_17 (lv_at hl 4 rfl) ?_
  refine nw_getN (D := D) (ci := 1) (C := R_By) (T := T_By) (N := 2) hx hb hts in_By hown hK.k hP (i := 1) (by decide) tl_1 rfl 1 (by decide) (hK.nest 2 (by decide) rfl) rfl d_Lg_writeRecord_19 ?_
  refine lv_iload_n hx hb d_Lg_writeRecord_22 rfl (lv_at hl 3 rfl) ?_
  refine lv_isub hx hb d_Lg_writeRecord_23 ?_
  refine lv_eqi (pk_sub (by omega)) ?_
  refine lv_istore (lv' := [(5, .int (nI (tn - k))), (0, .ref (ad 3)), (1, .int (nI kd)), (2, .int (nI mo)), (3, .int (nI k)), (4, .ref (ad 1))]) hx hb d_Lg_writeRecord_24 hl (by decide) rfl (fun ls hl => ?_)
  refine lv_aload_n hx hb d_Lg_writeRecord_26 rfl (lv_at hl 1 rfl) ?_
  refine nw_get (D := D) (ci := 3) (C := R_Lg) (T := T_Lg) (N := 7) hx hb hts in_Lg hown hK.k hP (i := 3) (by decide) tl_3 rfl 6 (by decide) (hts _ kf_Lg_45) rfl d_Lg_writeRecord_27 ?_
  refine lv_iconst (v := nI 0) hx hb d_Lg_writeRecord_30 (by decide) ?_
  refine nw_putN (D := D) (ci := 1) (C := R_By) (T := T_By) (N := 2) hx hb hts in_By ty_By tk_By nm_By hown hK.k hP hD hS (i := 7) (by decide) tl_7 rfl 1 (by decide) (hK.nest 2 (by decide) rfl) rfl rfl rfl (Nat.le_of_ble_eq_true rfl) d_Lg_writeRecord_31 (fun H locs hP hS hz hq => ?_)
  have hP : nw D vcl PT ad (tlC cy ad tp tn dn rw ln op bg w cp cb pt 0 cn cg er rc re) H := nw_congr hP (tlu_pn)
  refine lv_aload_n hx hb d_Lg_writeRecord_34 rfl (lv_at hl 1 rfl) ?_
  refine nw_get (D := D) (ci := 3) (C := R_Lg) (T := T_Lg) (N := 7) hx hb hts in_Lg hown hK.k hP (i := 3) (by decide) tl_3 rfl 6 (by decide) (hts _ kf_Lg_45) rfl d_Lg_writeRecord_35 ?_
  refine lv_iload_n hx hb d_Lg_writeRecord_38 rfl (lv_at hl 2 rfl) ?_
  refine call_V (As := [.int (nI kd)]) (rest := []) F hK (by have z := c_By_add l D cy (fun i => ad (q_pt i)) 1054 (0) (pt) (nI kd) (by omega) (by omega); rw [show bof (nI kd) = kd by rw [bof_nI (by omega)]; omega] at z; exact z) km_Lg_88 ki_By_add ks_By_add k0_By kc_By_add kd_By_add ⟨Nat.le_of_ble_eq_true rfl, Nat.le_of_ble_eq_true rfl⟩ (nw_recv hK.k hP (i := 7) (by decide) tl_7 rfl) (nw_sub hP q_pt qs_pt) (qi_pt hD) hl.1 rfl (Nat.le_of_ble_eq_true rfl) d_Lg_writeRecord_39 ⟨(Nat.le_of_ble_eq_true rfl), (Nat.le_of_ble_eq_true rfl)⟩ hS (na_sub hD hS hA q_pt qp_pt) (fun H1 locs1 hP1 hk1 hS => ?_)
  have hP : nw D vcl PT ad (tlC cy ad tp tn dn rw ln op bg w cp cb (va_up pt 0 kd) 1 cn cg er rc re) H1 := qj_pt hP hD hk1 hP1
  generalize H1 = H at hP hS ⊢
  refine lv_aload_n hx hb d_Lg_writeRecord_42 rfl (lv_at hl 1 rfl) ?_
  refine nw_get (D := D) (ci := 3) (C := R_Lg) (T := T_Lg) (N := 7) hx hb hts in_Lg hown hK.k hP (i := 3) (by decide) tl_3 rfl 6 (by decide) (hts _ kf_Lg_45) rfl d_Lg_writeRecord_43 ?_
  refine lv_iload_n hx hb d_Lg_writeRecord_46 rfl (lv_at hl 3 rfl) ?_
  refine call_V (As := [.int (nI mo)]) (rest := []) F hK (c_By_addInt l D cy (fun i => ad (q_pt i)) 1054 1 (va_up pt 0 kd) (nI mo) (by omega) (by omega)) km_Lg_91 ki_By_addInt ks_By_addInt k0_By kc_By_addInt kd_By_addInt ⟨Nat.le_of_ble_eq_true rfl, Nat.le_of_ble_eq_true rfl⟩ (nw_recv hK.k hP (i := 7) (by decide) tl_7 rfl) (nw_sub hP q_pt qs_pt) (qi_pt hD) hl.1 rfl (Nat.le_of_ble_eq_true rfl) d_Lg_writeRecord_47 ⟨(Nat.le_of_ble_eq_true rfl), (Nat.le_of_ble_eq_true rfl)⟩ hS (na_sub hD hS hA q_pt qp_pt) (fun H1 locs1 hP1 hk1 hS => ?_)
  have hP : nw D vcl PT ad (tlC cy ad tp tn dn rw ln op bg w cp cb (up4 (va_up pt 0 kd) 1 (nI mo)) 5 cn cg er rc re) H1 := qj_pt hP hD hk1 hP1
  generalize H1 = H at hP hS ⊢
  refine lv_aload_n hx hb d_Lg_writeRecord_50 rfl (lv_at hl 1 rfl) ?_
  refine nw_get (D := D) (ci := 3) (C := R_Lg) (T := T_Lg) (N := 7) hx hb hts in_Lg hown hK.k hP (i := 3) (by decide) tl_3 rfl 6 (by decide) (hts _ kf_Lg_45) rfl d_Lg_writeRecord_51 ?_
  refine lv_iload_n hx hb d_Lg_writeRecord_54 rfl (lv_at hl 4 rfl) ?_
  refine call_V (As := [.int (nI k)]) (rest := []) F hK (by have z := c_By_add l D cy (fun i => ad (q_pt i)) 1054 (5) (up4 (va_up pt 0 kd) 1 (nI mo)) (nI k) (by omega) (by omega); rw [show bof (nI k) = k by rw [bof_nI (by omega)]; omega] at z; exact z) km_Lg_88 ki_By_add ks_By_add k0_By kc_By_add kd_By_add ⟨Nat.le_of_ble_eq_true rfl, Nat.le_of_ble_eq_true rfl⟩ (nw_recv hK.k hP (i := 7) (by decide) tl_7 rfl) (nw_sub hP q_pt qs_pt) (qi_pt hD) hl.1 rfl (Nat.le_of_ble_eq_true rfl) d_Lg_writeRecord_55 ⟨(Nat.le_of_ble_eq_true rfl), (Nat.le_of_ble_eq_true rfl)⟩ hS (na_sub hD hS hA q_pt qp_pt) (fun H1 locs1 hP1 hk1 hS => ?_)
  have hP : nw D vcl PT ad (tlC cy ad tp tn dn rw ln op bg w cp cb (va_up (up4 (va_up pt 0 kd) 1 (nI mo)) 5 k) 6 cn cg er rc re) H1 := qj_pt hP hD hk1 hP1
  generalize H1 = H at hP hS ⊢
  refine lv_aload_n hx hb d_Lg_writeRecord_58 rfl (lv_at hl 1 rfl) ?_
  refine nw_get (D := D) (ci := 3) (C := R_Lg) (T := T_Lg) (N := 7) hx hb hts in_Lg hown hK.k hP (i := 3) (by decide) tl_3 rfl 6 (by decide) (hts _ kf_Lg_45) rfl d_Lg_writeRecord_59 ?_
  refine lv_iload hx hb d_Lg_writeRecord_62 (lv_at hl 0 rfl) ?_
  refine lv_bipush (v := nI 8) hx hb d_Lg_writeRecord_64 (by decide) ?_
  refine lv_ishr hx hb d_Lg_writeRecord_66 ?_
  refine call_V (As := [.int ((nI (tn - k)) >>> ((nI 8) &&& 31))]) (rest := []) F hK (by have z := c_By_add l D cy (fun i => ad (q_pt i)) 1054 (6) (va_up (up4 (va_up pt 0 kd) 1 (nI mo)) 5 k) ((nI (tn - k)) >>> ((nI 8) &&& 31)) (by omega) (by omega); rw [show bof ((nI (tn - k)) >>> ((nI 8) &&& 31)) = (tn - k) / 256 by rw [bof_8, (nb_c (by omega)).1]; omega] at z; exact z) km_Lg_88 ki_By_add ks_By_add k0_By kc_By_add kd_By_add ⟨Nat.le_of_ble_eq_true rfl, Nat.le_of_ble_eq_true rfl⟩ (nw_recv hK.k hP (i := 7) (by decide) tl_7 rfl) (nw_sub hP q_pt qs_pt) (qi_pt hD) hl.1 rfl (Nat.le_of_ble_eq_true rfl) d_Lg_writeRecord_67 ⟨(Nat.le_of_ble_eq_true rfl), (Nat.le_of_ble_eq_true rfl)⟩ hS (na_sub hD hS hA q_pt qp_pt) (fun H1 locs1 hP1 hk1 hS => ?_)
  have hP : nw D vcl PT ad (tlC cy ad tp tn dn rw ln op bg w cp cb (va_up (va_up (up4 (va_up pt 0 kd) 1 (nI mo)) 5 k) 6 ((tn - k) / 256)) 7 cn cg er rc re) H1 := qj_pt hP hD hk1 hP1
  generalize H1 = H at hP hS ⊢
  refine lv_aload_n hx hb d_Lg_writeRecord_70 rfl (lv_at hl 1 rfl) ?_
  refine nw_get (D := D) (ci := 3) (C := R_Lg) (T := T_Lg) (N := 7) hx hb hts in_Lg hown hK.k hP (i := 3) (by decide) tl_3 rfl 6 (by decide) (hts _ kf_Lg_45) rfl d_Lg_writeRecord_71 ?_
  refine lv_iload hx hb d_Lg_writeRecord_74 (lv_at hl 0 rfl) ?_
  refine call_V (As := [.int (nI (tn - k))]) (rest := []) F hK (by have z := c_By_add l D cy (fun i => ad (q_pt i)) 1054 (7) (va_up (va_up (up4 (va_up pt 0 kd) 1 (nI mo)) 5 k) 6 ((tn - k) / 256)) (nI (tn - k)) (by omega) (by omega); rw [show bof (nI (tn - k)) = (tn - k) % 256 by rw [bof_nI (by omega)]] at z; exact z) km_Lg_88 ki_By_add ks_By_add k0_By kc_By_add kd_By_add ⟨Nat.le_of_ble_eq_true rfl, Nat.le_of_ble_eq_true rfl⟩ (nw_recv hK.k hP (i := 7) (by decide) tl_7 rfl) (nw_sub hP q_pt qs_pt) (qi_pt hD) hl.1 rfl (Nat.le_of_ble_eq_true rfl) d_Lg_writeRecord_76 ⟨(Nat.le_of_ble_eq_true rfl), (Nat.le_of_ble_eq_true rfl)⟩ hS (na_sub hD hS hA q_pt qp_pt) (fun H1 locs1 hP1 hk1 hS => ?_)
  have hP : nw D vcl PT ad (tlC cy ad tp tn dn rw ln op bg w cp cb (va_up (va_up (va_up (up4 (va_up pt 0 kd) 1 (nI mo)) 5 k) 6 ((tn - k) / 256)) 7 ((tn - k) % 256)) 8 cn cg er rc re) H1 := qj_pt hP hD hk1 hP1
  generalize H1 = H at hP hS ⊢
  refine lv_aload_n hx hb d_Lg_writeRecord_79 rfl (lv_at hl 1 rfl) ?_
  refine nw_get (D := D) (ci := 3) (C := R_Lg) (T := T_Lg) (N := 7) hx hb hts in_Lg hown hK.k hP (i := 3) (by decide) tl_3 rfl 6 (by decide) (hts _ kf_Lg_45) rfl d_Lg_writeRecord_80 ?_
  refine lv_aload hx hb d_Lg_writeRecord_83 (lv_at hl 5 rfl) ?_
  refine call_V (As := [.ref (ad 1)]) (rest := []) F hK (c_By_addAll l D cy (fun i => ad (q_pa i)) 1054 8 1060 tn (va_up (va_up (va_up (up4 (va_up pt 0 kd) 1 (nI mo)) 5 k) 6 ((tn - k) / 256)) 7 ((tn - k) % 256)) tp (by omega) (by omega) (by omega) (by omega) htp) km_Lg_99 ki_By_addAll ks_By_addAll k0_By kc_By_addAll kd_By_addAll ⟨Nat.le_of_ble_eq_true rfl, Nat.le_of_ble_eq_true rfl⟩ (nw_recv hK.k hP (i := 7) (by decide) tl_7 rfl) (nw_sub hP q_pa qs_pa) (qi_pa hD) hl.1 rfl (Nat.le_of_ble_eq_true rfl) d_Lg_writeRecord_85 ⟨(Nat.le_of_ble_eq_true rfl), (Nat.le_of_ble_eq_true rfl)⟩ hS (na_sub hD hS hA q_pa qp_pa) (fun H1 locs1 hP1 hk1 hS => ?_)
  have hP : nw D vcl PT ad (tlC cy ad tp tn dn rw ln op bg w cp cb (upN (va_up (va_up (va_up (up4 (va_up pt 0 kd) 1 (nI mo)) 5 k) 6 ((tn - k) / 256)) 7 ((tn - k) % 256)) 8 tp tn) (8 + tn) cn cg er rc re) H1 := qj_pa hP hD hk1 hP1
  generalize H1 = H at hP hS ⊢
  refine lv_aload_n hx hb d_Lg_writeRecord_88 rfl (lv_at hl 1 rfl) ?_
  refine nw_get (D := D) (ci := 3) (C := R_Lg) (T := T_Lg) (N := 7) hx hb hts in_Lg hown hK.k hP (i := 3) (by decide) tl_3 rfl 6 (by decide) (hts _ kf_Lg_45) rfl d_Lg_writeRecord_89 ?_
  refine lv_bipush (v := nI 90) hx hb d_Lg_writeRecord_92 (by decide) ?_
  refine call_V (As := [.int (nI 90)]) (rest := []) F hK (by have z := c_By_add l D cy (fun i => ad (q_pt i)) 1054 (8 + tn) (upN (va_up (va_up (va_up (up4 (va_up pt 0 kd) 1 (nI mo)) 5 k) 6 ((tn - k) / 256)) 7 ((tn - k) % 256)) 8 tp tn) (nI 90) (by omega) (by omega); rw [show bof (nI 90) = 90 by decide, show 8 + tn + 1 = 9 + tn by omega] at z; exact z) km_Lg_88 ki_By_add ks_By_add k0_By kc_By_add kd_By_add ⟨Nat.le_of_ble_eq_true rfl, Nat.le_of_ble_eq_true rfl⟩ (nw_recv hK.k hP (i := 7) (by decide) tl_7 rfl) (nw_sub hP q_pt qs_pt) (qi_pt hD) hl.1 rfl (Nat.le_of_ble_eq_true rfl) d_Lg_writeRecord_94 ⟨(Nat.le_of_ble_eq_true rfl), (Nat.le_of_ble_eq_true rfl)⟩ hS (na_sub hD hS hA q_pt qp_pt) (fun H1 locs1 hP1 hk1 hS => ?_)
  have hP : nw D vcl PT ad (tlC cy ad tp tn dn rw ln op bg w cp cb (RB pt kd mo k tn tp) (9 + tn) cn cg er rc re) H1 := qj_pt hP hD hk1 hP1
  generalize H1 = H at hP hS ⊢
  refine lv_aload_n hx hb d_Lg_writeRecord_97 rfl (lv_at hl 1 rfl) ?_
  refine lv_aload_n hx hb d_Lg_writeRecord_98 rfl (lv_at hl 1 rfl) ?_
  refine nw_get (D := D) (ci := 3) (C := R_Lg) (T := T_Lg) (N := 7) hx hb hts in_Lg hown hK.k hP (i := 3) (by decide) tl_3 rfl 2 (by decide) (hts _ kf_Lg_22) rfl d_Lg_writeRecord_99 ?_
  refine lv_iconst (v := nI 1) hx hb d_Lg_writeRecord_102 (by decide) ?_
  refine lv_isub hx hb d_Lg_writeRecord_103 ?_
  refine lv_eqi (pk_sub (by omega)) ?_
  refine call_A (As := [.int (nI (ln - 1))]) (rest := []) F hK (c_Lg_block l D cy ad (ln - 1) tp rw (RB pt kd mo k tn tp) cn er rc re cg tn ln bg cp cb (9 + tn) dn op w HL HR (by omega)) km_Lg_49 ki_Lg_block ks_Lg_block k0_Lg kc_Lg_block kd_Lg_block ⟨Nat.le_of_ble_eq_true rfl, Nat.le_of_ble_eq_true rfl⟩ (nw_recv hK.k hP (i := 3) (by decide) tl_3 rfl) (hP) (hI) hl.1 rfl (Nat.le_of_ble_eq_true rfl) d_Lg_writeRecord_104 ⟨(Nat.le_of_ble_eq_true rfl), (Nat.le_of_ble_eq_true rfl)⟩ hS (fun H1 locs1 hN hS => ?_)
  have hP := hN _ _ _ hP
  generalize H1 = H at hP hS ⊢
  refine lv_astore (lv' := [(6, .ref (ad (10 + (rw (ln - 1))))), (5, .int (nI (tn - k))), (0, .ref (ad 3)), (1, .int (nI kd)), (2, .int (nI mo)), (3, .int (nI k)), (4, .ref (ad 1))]) hx hb d_Lg_writeRecord_107 hl (by decide) rfl (fun ls hl => ?_)
  refine lv_aload hx hb d_Lg_writeRecord_109 (lv_at hl 0 rfl) ?_
  refine lv_aload hx hb d_Lg_writeRecord_111 (lv_at hl 0 rfl) ?_
  refine nw_getN (D := D) (ci := 0) (C := R_Bk) (T := T_Bk) (N := 5) hx hb hts in_Bk hown hK.k hP (i := 10 + (rw (ln - 1))) (PT_b (by omega)) (tl_b (by omega)) rfl 4 (by decide) (hK.nest 6 (by decide) rfl) rfl d_Lg_writeRecord_113 ?_
  refine lv_aload_n hx hb d_Lg_writeRecord_116 rfl (lv_at hl 2 rfl) ?_
  refine nw_get (D := D) (ci := 3) (C := R_Lg) (T := T_Lg) (N := 7) hx hb hts in_Lg hown hK.k hP (i := 3) (by decide) tl_3 rfl 6 (by decide) (hts _ kf_Lg_45) rfl d_Lg_writeRecord_117 ?_
  refine lv_aload_n hx hb d_Lg_writeRecord_120 rfl (lv_at hl 2 rfl) ?_
  refine nw_get (D := D) (ci := 3) (C := R_Lg) (T := T_Lg) (N := 7) hx hb hts in_Lg hown hK.k hP (i := 3) (by decide) tl_3 rfl 5 (by decide) (hts _ kf_Lg_36) rfl d_Lg_writeRecord_121 ?_
  refine call_I (As := [.int (nI (re ((rw (ln - 1))))), .ref (ad 7), .ref (ad 6)]) (rest := []) F hK (c_Bk_write l D cy (fun i => ad (q_wr (rw (ln - 1)) i)) (re (rw (ln - 1))) (cn (rw (ln - 1))) (er (rw (ln - 1))) (rc (rw (ln - 1))) (re (rw (ln - 1))) (cg (rw (ln - 1))) hc0 (HG _ hb0) 1054 (9 + tn) cp cb (RB pt kd mo k tn tp) w (by omega) (by omega) (by omega) (RB_lt hkd hk (by omega) htp) hcp hcb (by omega) h255) km_Lg_94 ki_Bk_write ks_Bk_write k0_Bk kc_Bk_write kd_Bk_write ⟨Nat.le_of_ble_eq_true rfl, Nat.le_of_ble_eq_true rfl⟩ (nw_recv hK.k hP (i := 10 + (rw (ln - 1))) (PT_b (by omega)) (tl_b (by omega)) rfl) (nw_sub hP (q_wr (rw (ln - 1))) (qs_wr hb0)) (qi_wr hb0 hD) hl.1 rfl (Nat.le_of_ble_eq_true rfl) d_Lg_writeRecord_124 ⟨(Nat.le_of_ble_eq_true rfl), (Nat.le_of_ble_eq_true rfl)⟩ hS (na_sub hD hS hA (q_wr (rw (ln - 1))) (qp_wr hb0)) (fun H1 locs1 hP1 hk1 hS => ?_)
  have hP : nw D vcl PT ad (tlC cy ad tp tn dn rw ln op bg (cutW w cp) (cutP w cp) cb (RB pt kd mo k tn tp) (9 + tn) cn (va_up cg (rw (ln - 1)) (upN (cg (rw (ln - 1))) (re (rw (ln - 1))) (RB pt kd mo k tn tp) (cutN w cp cb (9 + tn)))) er rc re) H1 := by have z := qj_wr hb0 hP hD hk1 hP1; simp only [va_up_id] at z; exact z
  generalize H1 = H at hP hS ⊢
  refine lv_eqi (y := bI true) (by rw [decide_eq_true hdn]) ?_
  rw [hdn] at hP
  refine lv_if_ne (tgt := 132) hx hb d_Lg_writeRecord_127 (by decide) (fun c127 => ?_) (fun c127 => absurd c127 (show bI true = 0 → False from fun z => absurd z (by decide)))
  refine lv_aload hx hb d_Lg_writeRecord_132 (lv_at hl 0 rfl) ?_
  refine lv_dup hx hb d_Lg_writeRecord_134 rfl ?_
  refine nw_getN (D := D) (ci := 0) (C := R_Bk) (T := T_Bk) (N := 5) hx hb hts in_Bk hown hK.k hP (i := 10 + (rw (ln - 1))) (PT_b (by omega)) (tl_b (by omega)) rfl 4 (by decide) (hK.nest 6 (by decide) rfl) rfl d_Lg_writeRecord_135 ?_
  refine lv_aload_n hx hb d_Lg_writeRecord_138 rfl (lv_at hl 2 rfl) ?_
  refine nw_get (D := D) (ci := 3) (C := R_Lg) (T := T_Lg) (N := 7) hx hb hts in_Lg hown hK.k hP (i := 3) (by decide) tl_3 rfl 6 (by decide) (hts _ kf_Lg_45) rfl d_Lg_writeRecord_139 ?_
  refine nw_getN (D := D) (ci := 1) (C := R_By) (T := T_By) (N := 2) hx hb hts in_By hown hK.k hP (i := 7) (by decide) tl_7 rfl 1 (by decide) (hK.nest 2 (by decide) rfl) rfl d_Lg_writeRecord_142 ?_
  refine lv_iadd hx hb d_Lg_writeRecord_145 ?_
  refine lv_eqi (nI_add _ _) ?_
  refine nw_putN (D := D) (ci := 0) (C := R_Bk) (T := T_Bk) (N := 5) hx hb hts in_Bk ty_Bk tk_Bk nm_Bk hown hK.k hP hD hS (i := 10 + (rw (ln - 1))) (PT_b (by omega)) (tl_b (by omega)) rfl 4 (by decide) (hK.nest 6 (by decide) rfl) rfl rfl rfl (Nat.le_of_ble_eq_true rfl) d_Lg_writeRecord_146 (fun H locs hP hS hz hq => ?_)
  have hP : nw D vcl PT ad (tlC cy ad tp tn dn rw ln op bg (cutW w cp) (cutP w cp) cb (RB pt kd mo k tn tp) (9 + tn) cn (va_up cg (rw (ln - 1)) (upN (cg (rw (ln - 1))) (re (rw (ln - 1))) (RB pt kd mo k tn tp) (9 + tn))) er rc (va_up re (rw (ln - 1)) (re (rw (ln - 1)) + (9 + tn)))) H := nw_congr hP (tlu_re hb0)
  refine lv_aload hx hb d_Lg_writeRecord_149 (lv_at hl 0 rfl) ?_
  refine lv_dup hx hb d_Lg_writeRecord_151 rfl ?_
  refine nw_getN (D := D) (ci := 0) (C := R_Bk) (T := T_Bk) (N := 5) hx hb hts in_Bk hown hK.k hP (i := 10 + (rw (ln - 1))) (PT_b (by omega)) (tl_b (by omega)) rfl 3 (by decide) (hK.nest 5 (by decide) rfl) rfl d_Lg_writeRecord_152 ?_
  refine lv_iconst (v := nI 1) hx hb d_Lg_writeRecord_155 (by decide) ?_
  refine lv_iadd hx hb d_Lg_writeRecord_156 ?_
  refine lv_eqi (nI_add _ _) ?_
  refine nw_putN (D := D) (ci := 0) (C := R_Bk) (T := T_Bk) (N := 5) hx hb hts in_Bk ty_Bk tk_Bk nm_Bk hown hK.k hP hD hS (i := 10 + (rw (ln - 1))) (PT_b (by omega)) (tl_b (by omega)) rfl 3 (by decide) (hK.nest 5 (by decide) rfl) rfl rfl rfl (Nat.le_of_ble_eq_true rfl) d_Lg_writeRecord_157 (fun H locs hP hS hz hq => ?_)
  have hP : nw D vcl PT ad (tlC cy ad tp tn dn rw ln op bg (cutW w cp) (cutP w cp) cb (RB pt kd mo k tn tp) (9 + tn) cn (va_up cg (rw (ln - 1)) (upN (cg (rw (ln - 1))) (re (rw (ln - 1))) (RB pt kd mo k tn tp) (9 + tn))) er (va_up rc (rw (ln - 1)) (rc (rw (ln - 1)) + 1)) (va_up re (rw (ln - 1)) (re (rw (ln - 1)) + (9 + tn)))) H := nw_congr hP (tlu_rc hb0)
  refine lv_iconst (v := nI 1) hx hb d_Lg_writeRecord_160 (by decide) ?_
  exact end_I F hr hlk rfl hP hS d_Lg_writeRecord_161

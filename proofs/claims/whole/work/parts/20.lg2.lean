/-! TornLog$Log: drop, enter, find, number -/
theorem dropR_0 (rw : Nat → Nat) (i : Nat) : dropR rw i i = rw := by
  funext j
  simp only [dropR, if_neg (show ¬ (i ≤ j ∧ j < i) by omega)]
theorem dropR_s (rw : Nat → Nat) {i t : Nat} (h : i ≤ t) : va_up (dropR rw i t) t (dropR rw i t (t + 1)) = dropR rw i (t + 1) := by
  funext j
  by_cases hj : j = t
  · subst hj
    rw [va_up_self]
    simp only [dropR, if_neg (show ¬ (i ≤ j + 1 ∧ j + 1 < j) by omega), if_pos (show i ≤ j ∧ j < j + 1 by omega)]
  · rw [va_up_ne _ _ hj]
    simp only [dropR]
    by_cases h2 : i ≤ j ∧ j < t
    · rw [if_pos h2, if_pos (by omega)]
    · rw [if_neg h2, if_neg (by omega)]
/-- a block's cells, and when it was begun -/
abbrev fB (cn : Nat → Nat) (cg : Nat → Nat → Nat) (b : Nat) : Nat → Nat := vc (cn b) (cg b)
def orB (cn : Nat → Nat) (cg : Nat → Nat → Nat) (b : Nat) : Nat := num (fB cn cg b) 1 4
def shR (rw : Nat → Nat) (a n : Nat) : Nat → Nat := fun j => if a < j ∧ j ≤ n then rw (j - 1) else rw j
theorem shR_0 (rw : Nat → Nat) (n : Nat) : shR rw n n = rw := by
  funext j
  simp only [shR, if_neg (show ¬ (n < j ∧ j ≤ n) by omega)]
theorem shR_s (rw : Nat → Nat) {a n : Nat} (h : a + 1 ≤ n) : va_up (shR rw (a + 1) n) (a + 1) (shR rw (a + 1) n (a + 1 - 1)) = shR rw a n := by
  funext j
  by_cases hj : j = a + 1
  · subst hj
    rw [va_up_self]
    simp only [shR, if_neg (show ¬ (a + 1 < a + 1 - 1 ∧ a + 1 - 1 ≤ n) by omega), if_pos (show a < a + 1 ∧ a + 1 ≤ n by omega)]
  · rw [va_up_ne _ _ hj]
    simp only [shR]
    by_cases h2 : a + 1 < j ∧ j ≤ n
    · rw [if_pos h2, if_pos (by omega)]
    · rw [if_neg h2, if_neg (by omega)]
def insP (f : Nat → Nat) (rw : Nat → Nat) (x : Nat) : Nat → Nat
  | 0 => 0
  | t + 1 => if x < f (rw t) then insP f rw x t else t + 1
theorem insP_le (f rw : Nat → Nat) (x : Nat) : ∀ t, insP f rw x t ≤ t
  | 0 => Nat.le_refl _
  | t + 1 => by
    unfold insP
    split
    · exact Nat.le_trans (insP_le f rw x t) (by omega)
    · exact Nat.le_refl _
def insR (f rw : Nat → Nat) (b n : Nat) : Nat → Nat := va_up (shR rw (insP f rw (f b) n) n) (insP f rw (f b) n) b
/-- record m of the log from place t on: where it is -/
def fdR (rc rw : Nat → Nat) : Nat → Nat → Nat → Option (Nat × Nat)
  | 0, _, _ => none
  | j + 1, t, m => if m < rc (rw t) then some (t, m) else fdR rc rw j (t + 1) (m - rc (rw t))
def fdI (cn : Nat → Nat) (cg : Nat → Nat → Nat) (rw : Nat → Nat) : Option (Nat × Nat) → Int32
  | none => -1
  | some q => nI (q.1 * 2048 + pla (fB cn cg (rw q.1)) q.2)
set_option maxRecDepth 100000 in
set_option maxHeartbeats 4000000 in
theorem c_Lg_drop (l : Launch) (D : va_G) (cy : Nat → ClassId) (ad : Nat → Nat) (i : Nat) (tp rw pt cn er rc re : Nat → Nat) (cg : Nat → Nat → Nat) (tn ln bg cp cb pn : Nat) (dn op w : Bool) (HL : ln ≤ 24) (HR : ∀ i, i < ln → rw i < 24) (hi : i < ln) : mtV l y_Lg_drop b_Lg_drop 3 { frames := 0, cells := 0, slots := 0, locals := 0 } D cy [.ref (ad 3), .int (nI i)] PT ad (tlC cy ad tp tn dn rw ln op bg w cp cb pt pn cn cg er rc re) (tlC cy ad tp tn dn (dropR rw i (ln - 1)) (ln - 1) (op && decide (i ≠ ln - 1)) bg w cp cb pt pn cn cg er rc re) := by
  intro sz
  refine nm_ofW (cc := b_Lg_drop) (maxL := 3) (ret := none) (own := R_Lg) (by decide) (Nat.le_of_ble_eq_true rfl) rfl ?_
  intro p e s m below meth c ls F hr hlk hnm hv hl
  obtain ⟨hx, hb, hml, hown, hts⟩ := id F
  obtain ⟨rfl, hP, hK, hI⟩ := hv
  have hD : nd (na PT ad s.heap.size) PT ad := nd_self hI
  have hA : ∀ q, s.heap.size ≤ q → na PT ad s.heap.size q := fun q h => Or.inr h
  have hS : va_S (na PT ad s.heap.size) s.heap s.heap [] := va_S.rf
  have hl : lv_has ls 3 [(0, .ref (ad 3)), (1, .int (nI i))] := hl
  refine lv_aload_n hx hb d_Lg_drop_0 rfl (lv_at hl 0 rfl) ?_
  refine lv_dup hx hb d_Lg_drop_1 rfl ?_
  refine nw_get (D := D) (ci := 3) (C := R_Lg) (T := T_Lg) (N := 7) hx hb hts in_Lg hown hK.k hP (i := 3) (by decide) tl_3 rfl 2 (by decide) (hts _ kf_Lg_22) rfl d_Lg_drop_2 ?_
  refine lv_iconst (v := nI 1) hx hb d_Lg_drop_5 (by decide) ?_
  refine lv_isub hx hb d_Lg_drop_6 ?_
  refine lv_eqi (pk_sub (by omega)) ?_
  refine nw_put (D := D) (ci := 3) (C := R_Lg) (T := T_Lg) (N := 7) hx hb hts in_Lg ty_Lg tk_Lg nm_Lg hown hK.k hP hD hS (i := 3) (by decide) tl_3 rfl 2 (by decide) (hts _ kf_Lg_22) rfl rfl rfl (Nat.le_of_ble_eq_true rfl) d_Lg_drop_7 (fun H locs hP hS hz hq => ?_)
  have hP : nw D vcl PT ad (tlC cy ad tp tn dn rw (ln - 1) op bg w cp cb pt pn cn cg er rc re) H := nw_congr hP (tlu_ln)
  refine lv_iload_n hx hb d_Lg_drop_10 rfl (lv_at hl 1 rfl) ?_
  refine lv_istore_n (lv' := [(2, .int (nI i)), (0, .ref (ad 3)), (1, .int (nI i))]) hx hb d_Lg_drop_11 rfl hl (by decide) rfl (fun ls hl => ?_)
  have loop : ∀ (j t : Nat), t + j = ln - 1 → i ≤ t → ∀ (H : Heap) (locs : List Loc) (ls : Array Slot), nw D vcl PT ad (tlC cy ad tp tn dn (dropR rw i t) (ln - 1) op bg w cp cb pt pn cn cg er rc re) H → va_S (na PT ad s.heap.size) s.heap H locs → lv_has ls 3 [(2, .int (nI t)), (0, .ref (ad 3)), (1, .int (nI i))] → W p l e { frames := 0, cells := 0, slots := 0, locals := 0 } s m [.ref (ad 3), .int (nI i)].toArray below meth c H locs 0 0 (MQ below (va_Qv (fun _ : Unit => True) (fun _ t => nw D vcl PT ad (tlC cy ad tp tn dn (dropR rw i (ln - 1)) (ln - 1) (op && decide (i ≠ ln - 1)) bg w cp cb pt pn cn cg er rc re) t.heap) (na PT ad s.heap.size)) [.ref (ad 3), .int (nI i)].toArray s 0 0 (na PT ad s.heap.size)) (F0 m 12 ls []) := by
    intro j
    induction j with
    | zero =>
      intro t ht hit H locs ls hP hS hl
      obtain rfl : t = ln - 1 := by omega
      refine lv_iload_n hx hb d_Lg_drop_12 rfl (lv_at hl 0 rfl) ?_
      refine lv_aload_n hx hb d_Lg_drop_13 rfl (lv_at hl 1 rfl) ?_
      refine nw_get (D := D) (ci := 3) (C := R_Lg) (T := T_Lg) (N := 7) hx hb hts in_Lg hown hK.k hP (i := 3) (by decide) tl_3 rfl 2 (by decide) (hts _ kf_Lg_22) rfl d_Lg_drop_14 ?_
      refine lv_icmp_ge (tgt := 40) hx hb d_Lg_drop_17 (by decide) (fun c17 => ?_) (fun c17 => absurd ((nI_leI (by omega) (by omega)).mpr (by omega)) c17)
      refine lv_iload_n hx hb d_Lg_drop_40 rfl (lv_at hl 2 rfl) ?_
      refine lv_aload_n hx hb d_Lg_drop_41 rfl (lv_at hl 1 rfl) ?_
      refine nw_get (D := D) (ci := 3) (C := R_Lg) (T := T_Lg) (N := 7) hx hb hts in_Lg hown hK.k hP (i := 3) (by decide) tl_3 rfl 2 (by decide) (hts _ kf_Lg_22) rfl d_Lg_drop_42 ?_
      refine lv_icmp_ne (tgt := 53) hx hb d_Lg_drop_45 (by decide) (fun c45 => ?_) (fun c45 => ?_)
      · have c45 := mt (nI_eq (by omega) (by omega)).mpr c45
        have e1 : (op && decide (i ≠ ln - 1)) = op := by rw [decide_eq_true (show i ≠ ln - 1 from c45), Bool.and_true]
        rw [e1]
        exact end_V F hr hlk hP hS d_Lg_drop_53
      · have c45 := (nI_eq (by omega) (by omega)).mp c45
        have e1 : (op && decide (i ≠ ln - 1)) = false := by rw [decide_eq_false (show ¬ i ≠ ln - 1 by omega), Bool.and_false]
        rw [e1]
        refine lv_aload_n hx hb d_Lg_drop_48 rfl (lv_at hl 1 rfl) ?_
        refine lv_iconst (v := bI false) hx hb d_Lg_drop_49 (by decide) ?_
        refine nw_put (D := D) (ci := 3) (C := R_Lg) (T := T_Lg) (N := 7) hx hb hts in_Lg ty_Lg tk_Lg nm_Lg hown hK.k hP hD hS (i := 3) (by decide) tl_3 rfl 3 (by decide) (hts _ kf_Lg_26) rfl (bI_nar _) (bI_fit _) (Nat.le_of_ble_eq_true rfl) d_Lg_drop_50 (fun H locs hP hS hz hq => ?_)
        have hP : nw D vcl PT ad (tlC cy ad tp tn dn (dropR rw i (ln - 1)) (ln - 1) false bg w cp cb pt pn cn cg er rc re) H := nw_congr hP (tlu_op)
        exact end_V F hr hlk hP hS d_Lg_drop_53
    | succ j ih =>
      intro t ht hit H locs ls hP hS hl
      refine lv_iload_n hx hb d_Lg_drop_12 rfl (lv_at hl 0 rfl) ?_
      refine lv_aload_n hx hb d_Lg_drop_13 rfl (lv_at hl 1 rfl) ?_
      refine nw_get (D := D) (ci := 3) (C := R_Lg) (T := T_Lg) (N := 7) hx hb hts in_Lg hown hK.k hP (i := 3) (by decide) tl_3 rfl 2 (by decide) (hts _ kf_Lg_22) rfl d_Lg_drop_14 ?_
      refine lv_icmp_ge (tgt := 40) hx hb d_Lg_drop_17 (by decide) (fun c17 => absurd c17 (fun z => absurd ((nI_leI (by omega) (by omega)).mp z) (by omega))) (fun c17 => ?_)
      refine lv_aload_n hx hb d_Lg_drop_20 rfl (lv_at hl 1 rfl) ?_
      refine nw_get (D := D) (ci := 3) (C := R_Lg) (T := T_Lg) (N := 7) hx hb hts in_Lg hown hK.k hP (i := 3) (by decide) tl_3 rfl 1 (by decide) (hts _ kf_Lg_18) rfl d_Lg_drop_21 ?_
      refine lv_iload_n hx hb d_Lg_drop_24 rfl (lv_at hl 0 rfl) ?_
      refine lv_aload_n hx hb d_Lg_drop_25 rfl (lv_at hl 1 rfl) ?_
      refine nw_get (D := D) (ci := 3) (C := R_Lg) (T := T_Lg) (N := 7) hx hb hts in_Lg hown hK.k hP (i := 3) (by decide) tl_3 rfl 1 (by decide) (hts _ kf_Lg_18) rfl d_Lg_drop_26 ?_
      refine lv_iload_n hx hb d_Lg_drop_29 rfl (lv_at hl 0 rfl) ?_
      refine lv_iconst (v := nI 1) hx hb d_Lg_drop_30 (by decide) ?_
      refine lv_iadd hx hb d_Lg_drop_31 ?_
      refine lv_eqi (nI_add _ _) ?_
      refine nw_iald hx hb hK.k hP (i := 5) (by decide) tl_5 1 rfl (vp_in_nI (by omega) (by omega)) d_Lg_drop_32 ?_
      refine lv_eqi (y := nI ((dropR rw i t) (t + 1))) (by rw [nI_clamp (by omega)]) ?_
      refine nw_iast hx hb hK.k hP hD hS (i := 5) (by decide) tl_5 1 rfl (vp_in_nI (by omega) (by omega)) d_Lg_drop_33 (fun H locs hP hS hz hq => ?_)
      rw [nI_clamp (by omega), in_upd, dropR_s rw hit] at hP
      have hP : nw D vcl PT ad (tlC cy ad tp tn dn (dropR rw i (t + 1)) (ln - 1) op bg w cp cb pt pn cn cg er rc re) H := nw_congr hP (tlu_rw)
      refine lv_iinc (v := nI (t + 1)) (lv' := [(2, .int (nI (t + 1))), (0, .ref (ad 3)), (1, .int (nI i))]) hx hb d_Lg_drop_34 hl (k := 0) rfl (nI_inc _) (by decide) rfl (fun ls hl => ?_)
      refine lv_goto (tgt := 12) hx hb d_Lg_drop_37 (by decide) ?_
      exact ih (t + 1) (by omega) (by omega) _ _ _ hP hS (lv_sub hl [0, 1, 2] rfl)
  exact loop (ln - 1 - i) i (by omega) (Nat.le_refl _) _ _ _ (by rw [dropR_0]; exact hP) hS (lv_sub hl [0, 1, 2] rfl)
set_option maxRecDepth 100000 in
set_option maxHeartbeats 4000000 in
theorem c_Lg_number (l : Launch) (D : va_G) (cy : Nat → ClassId) (ad : Nat → Nat) (a b : Nat) (tp rw pt cn er rc re : Nat → Nat) (cg : Nat → Nat → Nat) (tn ln bg cp cb pn : Nat) (dn op w : Bool) (HL : ln ≤ 24) (HR : ∀ i, i < ln → rw i < 24) (HC : ∀ b, b < 24 → cn b < 2 ^ 16) (HG : ∀ b, b < 24 → ∀ j, j < cn b → cg b j < 256) (ha : a / 2048 < ln) (hb4 : b ≤ 4) : mtR l y_Lg_number b_Lg_number 3 (some .int) { frames := 2, cells := 0, slots := 0, locals := 45 } D cy [.ref (ad 3), .int (nI a), .int (nI b)] PT ad (tlC cy ad tp tn dn rw ln op bg w cp cb pt pn cn cg er rc re) (nI (num (fB cn cg (rw (a / 2048))) (a % 2048) b)) := by
  intro sz
  refine nm_ofW (cc := b_Lg_number) (maxL := 3) (ret := (some .int)) (own := R_Lg) (by decide) (Nat.le_of_ble_eq_true rfl) rfl ?_
  intro p e s m below meth c ls F hr hlk hnm hv hl
  obtain ⟨hx, hb, hml, hown, hts⟩ := id F
  obtain ⟨rfl, hP, hK, hI⟩ := hv
  have hD : nd (na PT ad s.heap.size) PT ad := nd_self hI
  have hS : va_S (fun _ => False) s.heap s.heap [] := va_S.rf
  have hl : lv_has ls 3 [(0, .ref (ad 3)), (1, .int (nI a)), (2, .int (nI b))] := hl
  have hb0 := HR _ ha
  have hc0 := HC _ hb0
  refine lv_aload_n hx hb d_Lg_number_0 rfl (lv_at hl 0 rfl) ?_
  refine lv_iload_n hx hb d_Lg_number_1 rfl (lv_at hl 1 rfl) ?_
  refine lv_sipush (v := nI 2048) hx hb d_Lg_number_2 (by decide) ?_
  refine lv_idiv hx hb d_Lg_number_5 (by decide) ?_
  refine lv_eqi (pk_div (by omega) (by omega) (by omega)) ?_
  refine call_A (As := [.int (nI (a / 2048))]) (rest := []) F hK (c_Lg_block l D cy ad (a / 2048) tp rw pt cn er rc re cg tn ln bg cp cb pn dn op w HL HR (by omega)) km_Lg_49 ki_Lg_block ks_Lg_block k0_Lg kc_Lg_block kd_Lg_block ⟨Nat.le_of_ble_eq_true rfl, Nat.le_of_ble_eq_true rfl⟩ (nw_recv hK.k hP (i := 3) (by decide) tl_3 rfl) (hP) (hI) hl.1 rfl (Nat.le_of_ble_eq_true rfl) d_Lg_number_6 ⟨(Nat.le_of_ble_eq_true rfl), (Nat.le_of_ble_eq_true rfl)⟩ hS (fun H1 locs1 hN hS => ?_)
  have hP := hN _ _ _ hP
  generalize H1 = H at hP hS ⊢
  refine lv_iload_n hx hb d_Lg_number_9 rfl (lv_at hl 1 rfl) ?_
  refine lv_sipush (v := nI 2048) hx hb d_Lg_number_10 (by decide) ?_
  refine lv_irem hx hb d_Lg_number_13 (by decide) ?_
  refine lv_eqi (pk_rem (by omega) (by omega) (by omega)) ?_
  refine lv_iload_n hx hb d_Lg_number_14 rfl (lv_at hl 2 rfl) ?_
  refine call_R (As := [.int (nI (a % 2048)), .int (nI b)]) (rest := []) F hK (c_Bk_number l D cy (fun i => ad (q_bk (rw (a / 2048)) i)) (a % 2048) b (cn (rw (a / 2048))) (er (rw (a / 2048))) (rc (rw (a / 2048))) (re (rw (a / 2048))) (cg (rw (a / 2048))) hc0 (HG _ hb0) (by omega) hb4) km_Lg_110 ki_Bk_number ks_Bk_number k0_Bk kc_Bk_number kd_Bk_number ⟨Nat.le_of_ble_eq_true rfl, Nat.le_of_ble_eq_true rfl⟩ (nw_recv hK.k hP (i := 10 + (rw (a / 2048))) (PT_b (by omega)) (tl_b (by omega)) rfl) (nw_sub hP (q_bk (rw (a / 2048))) (qs_bk hb0)) (qi_bk hb0 hD) hl.1 rfl (Nat.le_of_ble_eq_true rfl) d_Lg_number_15 ⟨(Nat.le_of_ble_eq_true rfl), (Nat.le_of_ble_eq_true rfl)⟩ hS (fun H1 locs1 hN hS => ?_)
  have hP := hN _ _ _ hP
  generalize H1 = H at hP hS ⊢
  exact end_R F hr hlk rfl hS d_Lg_number_18
set_option maxRecDepth 100000 in
set_option maxHeartbeats 4000000 in
theorem c_Lg_findN (l : Launch) (D : va_G) (cy : Nat → ClassId) (ad : Nat → Nat) (x : Int32) (tp rw pt cn er rc re : Nat → Nat) (cg : Nat → Nat → Nat) (tn ln bg cp cb pn : Nat) (dn op w : Bool) (hx0 : x < 0) : mtR l y_Lg_find b_Lg_find 5 (some .int) { frames := 3, cells := 0, slots := 0, locals := 66 } D cy [.ref (ad 3), .int (x)] PT ad (tlC cy ad tp tn dn rw ln op bg w cp cb pt pn cn cg er rc re) (-1) := by
  intro sz
  refine nm_ofW (cc := b_Lg_find) (maxL := 5) (ret := (some .int)) (own := R_Lg) (by decide) (Nat.le_of_ble_eq_true rfl) rfl ?_
  intro p e s m below meth c ls F hr hlk hnm hv hl
  obtain ⟨hx, hb, hml, hown, hts⟩ := id F
  obtain ⟨rfl, hP, hK, hI⟩ := hv
  have hD : nd (na PT ad s.heap.size) PT ad := nd_self hI
  have hS : va_S (fun _ => False) s.heap s.heap [] := va_S.rf
  have hl : lv_has ls 5 [(0, .ref (ad 3)), (1, .int (x))] := hl
  refine lv_iload_n hx hb d_Lg_find_0 rfl (lv_at hl 1 rfl) ?_
  refine lv_if_ge (tgt := 6) hx hb d_Lg_find_1 (by decide) (fun c1 => absurd c1 (Int32.not_le.mpr hx0)) (fun c1 => ?_)
  refine lv_iconst (v := -1) hx hb d_Lg_find_4 (by decide) ?_
  exact end_R F hr hlk rfl hS d_Lg_find_5
set_option maxRecDepth 100000 in
set_option maxHeartbeats 4000000 in
theorem c_Lg_find (l : Launch) (D : va_G) (cy : Nat → ClassId) (ad : Nat → Nat) (i : Nat) (tp rw pt cn er rc re : Nat → Nat) (cg : Nat → Nat → Nat) (tn ln bg cp cb pn : Nat) (dn op w : Bool) (HL : ln ≤ 24) (HR : ∀ i, i < ln → rw i < 24) (HC : ∀ b, b < 24 → cn b < 2 ^ 16) (HG : ∀ b, b < 24 → ∀ j, j < cn b → cg b j < 256) (HQ : ∀ b, b < 24 → rc b < 2 ^ 16 ∧ re b < 2 ^ 16) (HP : ∀ t, t < ln → ∀ q, q < rc (rw t) → pla (fB cn cg (rw t)) q < 2048) (hi : i < 2 ^ 31) : mtR l y_Lg_find b_Lg_find 5 (some .int) { frames := 4, cells := 0, slots := 0, locals := 92 } D cy [.ref (ad 3), .int (nI i)] PT ad (tlC cy ad tp tn dn rw ln op bg w cp cb pt pn cn cg er rc re) (fdI cn cg rw (fdR rc rw ln 0 i)) := by
  intro sz
  refine nm_ofW (cc := b_Lg_find) (maxL := 5) (ret := (some .int)) (own := R_Lg) (by decide) (Nat.le_of_ble_eq_true rfl) rfl ?_
  intro p e s m below meth c ls F hr hlk hnm hv hl
  obtain ⟨hx, hb, hml, hown, hts⟩ := id F
  obtain ⟨rfl, hP, hK, hI⟩ := hv
  have hD : nd (na PT ad s.heap.size) PT ad := nd_self hI
  have hS : va_S (fun _ => False) s.heap s.heap [] := va_S.rf
  have hl : lv_has ls 5 [(0, .ref (ad 3)), (1, .int (nI i))] := hl
  refine lv_iload_n hx hb d_Lg_find_0 rfl (lv_at hl 1 rfl) ?_
  refine lv_if_ge (tgt := 6) hx hb d_Lg_find_1 (by decide) (fun c1 => ?_) (fun c1 => absurd (nI_pos' (by omega)) c1)
  refine lv_iload_n hx hb d_Lg_find_6 rfl (lv_at hl 1 rfl) ?_
  refine lv_istore_n (lv' := [(2, .int (nI i)), (0, .ref (ad 3)), (1, .int (nI i))]) hx hb d_Lg_find_7 rfl hl (by decide) rfl (fun ls hl => ?_)
  refine lv_iconst (v := nI 0) hx hb d_Lg_find_8 (by decide) ?_
  refine lv_istore_n (lv' := [(3, .int (nI 0)), (2, .int (nI i)), (0, .ref (ad 3)), (1, .int (nI i))]) hx hb d_Lg_find_9 rfl hl (by decide) rfl (fun ls hl => ?_)
  have loop : ∀ (j t q : Nat), t + j = ln → q < 2 ^ 31 → fdR rc rw ln 0 i = fdR rc rw j t q → ∀ (H : Heap) (locs : List Loc) (ls : Array Slot) (x4 : List (Nat × Value)), nw D vcl PT ad (tlC cy ad tp tn dn rw ln op bg w cp cb pt pn cn cg er rc re) H → va_S (fun _ => False) s.heap H locs → lv_has ls 5 [(3, .int (nI t)), (2, .int (nI q)), (0, .ref (ad 3)), (1, .int (nI i))] → W p l e { frames := 4, cells := 0, slots := 0, locals := 92 } s m [.ref (ad 3), .int (nI i)].toArray below meth c H locs 0 0 (MQ below (va_Qi (fun r' (_ : Unit) => r' = fdI cn cg rw (fdR rc rw ln 0 i)) (fun _ _ => True) (fun _ => False)) [.ref (ad 3), .int (nI i)].toArray s 0 0 (fun _ => False)) (F0 m 10 ls []) := by
    intro j
    induction j with
    | zero =>
      intro t q ht hq he H locs ls x4 hP hS hl
      obtain rfl : t = ln := by omega
      refine lv_iload_n hx hb d_Lg_find_10 rfl (lv_at hl 0 rfl) ?_
      refine lv_aload_n hx hb d_Lg_find_11 rfl (lv_at hl 2 rfl) ?_
      refine nw_get (D := D) (ci := 3) (C := R_Lg) (T := T_Lg) (N := 7) hx hb hts in_Lg hown hK.k hP (i := 3) (by decide) tl_3 rfl 2 (by decide) (hts _ kf_Lg_22) rfl d_Lg_find_12 ?_
      refine lv_icmp_ge (tgt := 61) hx hb d_Lg_find_15 (by decide) (fun c15 => ?_) (fun c15 => absurd ((nI_leI (by omega) (by omega)).mpr (by omega)) c15)
      refine lv_iconst (v := -1) hx hb d_Lg_find_61 (by decide) ?_
      rw [he]
      exact end_R F hr hlk rfl hS d_Lg_find_62
    | succ j ih =>
      intro t q ht hq he H locs ls x4 hP hS hl
      have hb0 := HR t (by omega)
      have hq0 := HQ _ hb0
      have hc0 := HC _ hb0
      refine lv_iload_n hx hb d_Lg_find_10 rfl (lv_at hl 0 rfl) ?_
      refine lv_aload_n hx hb d_Lg_find_11 rfl (lv_at hl 2 rfl) ?_
      refine nw_get (D := D) (ci := 3) (C := R_Lg) (T := T_Lg) (N := 7) hx hb hts in_Lg hown hK.k hP (i := 3) (by decide) tl_3 rfl 2 (by decide) (hts _ kf_Lg_22) rfl d_Lg_find_12 ?_
      refine lv_icmp_ge (tgt := 61) hx hb d_Lg_find_15 (by decide) (fun c15 => absurd c15 (fun z => absurd ((nI_leI (by omega) (by omega)).mp z) (by omega))) (fun c15 => ?_)
      refine lv_aload_n hx hb d_Lg_find_18 rfl (lv_at hl 2 rfl) ?_
      refine lv_iload_n hx hb d_Lg_find_19 rfl (lv_at hl 0 rfl) ?_
      refine call_A (As := [.int (nI t)]) (rest := []) F hK (c_Lg_block l D cy ad t tp rw pt cn er rc re cg tn ln bg cp cb pn dn op w HL HR (by omega)) km_Lg_49 ki_Lg_block ks_Lg_block k0_Lg kc_Lg_block kd_Lg_block ⟨Nat.le_of_ble_eq_true rfl, Nat.le_of_ble_eq_true rfl⟩ (nw_recv hK.k hP (i := 3) (by decide) tl_3 rfl) (hP) (hI) hl.1 rfl (Nat.le_of_ble_eq_true rfl) d_Lg_find_20 ⟨(Nat.le_of_ble_eq_true rfl), (Nat.le_of_ble_eq_true rfl)⟩ hS (fun H1 locs1 hN hS => ?_)
      have hP := hN _ _ _ hP
      generalize H1 = H at hP hS ⊢
      refine lv_astore (lv' := [(4, .ref (ad (10 + (rw t)))), (3, .int (nI t)), (2, .int (nI q)), (0, .ref (ad 3)), (1, .int (nI i))]) hx hb d_Lg_find_23 hl (by decide) rfl (fun ls hl => ?_)
      refine lv_iload_n hx hb d_Lg_find_25 rfl (lv_at hl 2 rfl) ?_
      refine lv_aload hx hb d_Lg_find_26 (lv_at hl 0 rfl) ?_
      refine nw_getN (D := D) (ci := 0) (C := R_Bk) (T := T_Bk) (N := 5) hx hb hts in_Bk hown hK.k hP (i := 10 + (rw t)) (PT_b (by omega)) (tl_b (by omega)) rfl 3 (by decide) (hK.nest 5 (by decide) rfl) rfl d_Lg_find_28 ?_
      refine lv_icmp_ge (tgt := 47) hx hb d_Lg_find_31 (by decide) (fun c31 => ?_) (fun c31 => ?_)
      · have c31 := (nI_leI (by omega) (by omega)).mp c31
        refine lv_iload_n hx hb d_Lg_find_47 rfl (lv_at hl 2 rfl) ?_
        refine lv_aload hx hb d_Lg_find_48 (lv_at hl 0 rfl) ?_
        refine nw_getN (D := D) (ci := 0) (C := R_Bk) (T := T_Bk) (N := 5) hx hb hts in_Bk hown hK.k hP (i := 10 + (rw t)) (PT_b (by omega)) (tl_b (by omega)) rfl 3 (by decide) (hK.nest 5 (by decide) rfl) rfl d_Lg_find_50 ?_
        refine lv_isub hx hb d_Lg_find_53 ?_
        refine lv_eqi (pk_sub (by omega)) ?_
        refine lv_istore_n (lv' := [(2, .int (nI (q - (rc ((rw t)))))), (4, .ref (ad (10 + (rw t)))), (3, .int (nI t)), (0, .ref (ad 3)), (1, .int (nI i))]) hx hb d_Lg_find_54 rfl hl (by decide) rfl (fun ls hl => ?_)
        refine lv_iinc (v := nI (t + 1)) (lv' := [(3, .int (nI (t + 1))), (2, .int (nI (q - (rc ((rw t)))))), (4, .ref (ad (10 + (rw t)))), (0, .ref (ad 3)), (1, .int (nI i))]) hx hb d_Lg_find_55 hl (k := 2) rfl (nI_inc _) (by decide) rfl (fun ls hl => ?_)
        refine lv_goto (tgt := 10) hx hb d_Lg_find_58 (by decide) ?_
        refine ih (t + 1) (q - rc (rw t)) (by omega) (by omega) ?_ _ _ _ [] hP hS (lv_sub hl [0, 1, 3, 4] rfl)
        rw [he]
        simp only [fdR, if_neg (show ¬ q < rc (rw t) by omega)]
      · have c31 := mt (nI_leI (by omega) (by omega)).mpr c31
        have e1 : fdR rc rw ln 0 i = some (t, q) := by rw [he]; simp only [fdR, if_pos (show q < rc (rw t) by omega)]
        have hp := fun z (hz : z ≤ q) => HP t (by omega) z (by omega)
        have hpq := hp q (Nat.le_refl _)
        refine lv_iload_n hx hb d_Lg_find_34 rfl (lv_at hl 1 rfl) ?_
        refine lv_sipush (v := nI 2048) hx hb d_Lg_find_35 (by decide) ?_
        refine lv_imul hx hb d_Lg_find_38 ?_
        refine lv_eqi (pk_mul _ _) ?_
        refine lv_aload hx hb d_Lg_find_39 (lv_at hl 0 rfl) ?_
        refine lv_iload_n hx hb d_Lg_find_41 rfl (lv_at hl 2 rfl) ?_
        refine call_R (As := [.int (nI q)]) (rest := [.int (nI (t * 2048))]) F hK (c_Bk_placeOf l D cy (fun i => ad (q_bk (rw t) i)) q (cn (rw t)) (er (rw t)) (rc (rw t)) (re (rw t)) (cg (rw t)) hc0 (HG _ hb0) hq (fun z hz => Nat.lt_trans (hp z hz) (by omega))) km_Lg_114 ki_Bk_placeOf ks_Bk_placeOf k0_Bk kc_Bk_placeOf kd_Bk_placeOf ⟨Nat.le_of_ble_eq_true rfl, Nat.le_of_ble_eq_true rfl⟩ (nw_recv hK.k hP (i := 10 + (rw t)) (PT_b (by omega)) (tl_b (by omega)) rfl) (nw_sub hP (q_bk (rw t)) (qs_bk hb0)) (qi_bk hb0 hD) hl.1 rfl (Nat.le_of_ble_eq_true rfl) d_Lg_find_42 ⟨(Nat.le_of_ble_eq_true rfl), (Nat.le_of_ble_eq_true rfl)⟩ hS (fun H1 locs1 hN hS => ?_)
        have hP := hN _ _ _ hP
        generalize H1 = H at hP hS ⊢
        refine lv_iadd hx hb d_Lg_find_45 ?_
        refine lv_eqi (nI_add _ _) ?_
        rw [e1]
        exact end_R F hr hlk rfl hS d_Lg_find_46
  exact loop ln 0 i (by omega) hi rfl _ _ _ [] hP hS (lv_sub hl [0, 1, 2, 3] rfl)
set_option maxRecDepth 100000 in
set_option maxHeartbeats 4000000 in
theorem c_Lg_enter (l : Launch) (D : va_G) (cy : Nat → ClassId) (ad : Nat → Nat) (b : Nat) (tp rw pt cn er rc re : Nat → Nat) (cg : Nat → Nat → Nat) (tn ln bg cp cb pn : Nat) (dn op w : Bool) (HL : ln ≤ 24) (HR : ∀ i, i < ln → rw i < 24) (HC : ∀ b, b < 24 → cn b < 2 ^ 16) (HG : ∀ b, b < 24 → ∀ j, j < cn b → cg b j < 256) (hb24 : b < 24) (hl24 : ln < 24) (HO : ∀ i, i < ln → orB cn cg (rw i) < 2 ^ 31) (hob : orB cn cg b < 2 ^ 31) : mtV l y_Lg_enter b_Lg_enter 4 { frames := 2, cells := 0, slots := 0, locals := 45 } D cy [.ref (ad 3), .int (nI b)] PT ad (tlC cy ad tp tn dn rw ln op bg w cp cb pt pn cn cg er rc re) (tlC cy ad tp tn dn (insR (orB cn cg) rw b ln) (ln + 1) op bg w cp cb pt pn cn cg er rc re) := by
  intro sz
  refine nm_ofW (cc := b_Lg_enter) (maxL := 4) (ret := none) (own := R_Lg) (by decide) (Nat.le_of_ble_eq_true rfl) rfl ?_
  intro p e s m below meth c ls F hr hlk hnm hv hl
  obtain ⟨hx, hb, hml, hown, hts⟩ := id F
  obtain ⟨rfl, hP, hK, hI⟩ := hv
  have hD : nd (na PT ad s.heap.size) PT ad := nd_self hI
  have hA : ∀ q, s.heap.size ≤ q → na PT ad s.heap.size q := fun q h => Or.inr h
  have hS : va_S (na PT ad s.heap.size) s.heap s.heap [] := va_S.rf
  have hl : lv_has ls 4 [(0, .ref (ad 3)), (1, .int (nI b))] := hl
  have hc0 := HC _ hb24
  refine lv_aload_n hx hb d_Lg_enter_0 rfl (lv_at hl 0 rfl) ?_
  refine nw_get (D := D) (ci := 3) (C := R_Lg) (T := T_Lg) (N := 7) hx hb hts in_Lg hown hK.k hP (i := 3) (by decide) tl_3 rfl 0 (by decide) (hts _ kf_Lg_11) rfl d_Lg_enter_1 ?_
  refine lv_iload_n hx hb d_Lg_enter_4 rfl (lv_at hl 1 rfl) ?_
  refine nw_aald hx hb hK.k hP (i := 4) (by decide) tl_4 4 rfl (C := R_Bk) (vp_in_nI (by omega) (by omega)) (r := ad (10 + b)) (by rw [nI_clamp (by omega)]; exact if_pos (by omega)) d_Lg_enter_5 ?_
  refine lv_iconst (v := nI 1) hx hb d_Lg_enter_6 (by decide) ?_
  refine lv_iconst (v := nI 4) hx hb d_Lg_enter_7 (by decide) ?_
  refine call_R (As := [.int (nI 1), .int (nI 4)]) (rest := []) F hK (c_Bk_number l D cy (fun i => ad (q_bk b i)) 1 4 (cn b) (er b) (rc b) (re b) (cg b) hc0 (HG _ hb24) (by omega) (by omega)) km_Lg_110 ki_Bk_number ks_Bk_number k0_Bk kc_Bk_number kd_Bk_number ⟨Nat.le_of_ble_eq_true rfl, Nat.le_of_ble_eq_true rfl⟩ (nw_recv hK.k hP (i := 10 + b) (PT_b (by omega)) (tl_b (by omega)) rfl) (nw_sub hP (q_bk b) (qs_bk hb24)) (qi_bk hb24 hD) hl.1 rfl (Nat.le_of_ble_eq_true rfl) d_Lg_enter_8 ⟨(Nat.le_of_ble_eq_true rfl), (Nat.le_of_ble_eq_true rfl)⟩ hS (fun H1 locs1 hN hS => ?_)
  have hP := hN _ _ _ hP
  generalize H1 = H at hP hS ⊢
  refine lv_istore_n (lv' := [(2, .int (nI (orB cn cg b))), (0, .ref (ad 3)), (1, .int (nI b))]) hx hb d_Lg_enter_11 rfl hl (by decide) rfl (fun ls hl => ?_)
  refine lv_aload_n hx hb d_Lg_enter_12 rfl (lv_at hl 1 rfl) ?_
  refine nw_get (D := D) (ci := 3) (C := R_Lg) (T := T_Lg) (N := 7) hx hb hts in_Lg hown hK.k hP (i := 3) (by decide) tl_3 rfl 2 (by decide) (hts _ kf_Lg_22) rfl d_Lg_enter_13 ?_
  refine lv_istore_n (lv' := [(3, .int (nI ln)), (2, .int (nI (orB cn cg b))), (0, .ref (ad 3)), (1, .int (nI b))]) hx hb d_Lg_enter_16 rfl hl (by decide) rfl (fun ls hl => ?_)
  have loop : ∀ (t : Nat), t ≤ ln → insP (orB cn cg) rw (orB cn cg b) ln = insP (orB cn cg) rw (orB cn cg b) t → ∀ (H : Heap) (locs : List Loc) (ls : Array Slot), nw D vcl PT ad (tlC cy ad tp tn dn (shR rw t ln) ln op bg w cp cb pt pn cn cg er rc re) H → va_S (na PT ad s.heap.size) s.heap H locs → lv_has ls 4 [(3, .int (nI t)), (2, .int (nI (orB cn cg b))), (0, .ref (ad 3)), (1, .int (nI b))] → W p l e { frames := 2, cells := 0, slots := 0, locals := 45 } s m [.ref (ad 3), .int (nI b)].toArray below meth c H locs 0 0 (MQ below (va_Qv (fun _ : Unit => True) (fun _ t => nw D vcl PT ad (tlC cy ad tp tn dn (insR (orB cn cg) rw b ln) (ln + 1) op bg w cp cb pt pn cn cg er rc re) t.heap) (na PT ad s.heap.size)) [.ref (ad 3), .int (nI b)].toArray s 0 0 (na PT ad s.heap.size)) (F0 m 17 ls []) := by
    intro t
    have fin : ∀ (t : Nat), t ≤ ln → insP (orB cn cg) rw (orB cn cg b) ln = t → ∀ (H : Heap) (locs : List Loc) (ls : Array Slot), nw D vcl PT ad (tlC cy ad tp tn dn (shR rw t ln) ln op bg w cp cb pt pn cn cg er rc re) H → va_S (na PT ad s.heap.size) s.heap H locs → lv_has ls 4 [(3, .int (nI t)), (2, .int (nI (orB cn cg b))), (0, .ref (ad 3)), (1, .int (nI b))] → W p l e { frames := 2, cells := 0, slots := 0, locals := 45 } s m [.ref (ad 3), .int (nI b)].toArray below meth c H locs 0 0 (MQ below (va_Qv (fun _ : Unit => True) (fun _ t => nw D vcl PT ad (tlC cy ad tp tn dn (insR (orB cn cg) rw b ln) (ln + 1) op bg w cp cb pt pn cn cg er rc re) t.heap) (na PT ad s.heap.size)) [.ref (ad 3), .int (nI b)].toArray s 0 0 (na PT ad s.heap.size)) (F0 m 57 ls []) := by
      intro t ht he H locs ls hP hS hl
      refine lv_aload_n hx hb d_Lg_enter_57 rfl (lv_at hl 2 rfl) ?_
      refine nw_get (D := D) (ci := 3) (C := R_Lg) (T := T_Lg) (N := 7) hx hb hts in_Lg hown hK.k hP (i := 3) (by decide) tl_3 rfl 1 (by decide) (hts _ kf_Lg_18) rfl d_Lg_enter_58 ?_
      refine lv_iload_n hx hb d_Lg_enter_61 rfl (lv_at hl 0 rfl) ?_
      refine lv_iload_n hx hb d_Lg_enter_62 rfl (lv_at hl 3 rfl) ?_
      refine nw_iast hx hb hK.k hP hD hS (i := 5) (by decide) tl_5 1 rfl (vp_in_nI (by omega) (by omega)) d_Lg_enter_63 (fun H locs hP hS hz hq => ?_)
      rw [nI_clamp (by omega), in_upd, show va_up (shR rw t ln) t b = insR (orB cn cg) rw b ln by rw [insR, he]] at hP
      have hP : nw D vcl PT ad (tlC cy ad tp tn dn (insR (orB cn cg) rw b ln) ln op bg w cp cb pt pn cn cg er rc re) H := nw_congr hP (tlu_rw)
      refine lv_aload_n hx hb d_Lg_enter_64 rfl (lv_at hl 2 rfl) ?_
      refine lv_dup hx hb d_Lg_enter_65 rfl ?_
      refine nw_get (D := D) (ci := 3) (C := R_Lg) (T := T_Lg) (N := 7) hx hb hts in_Lg hown hK.k hP (i := 3) (by decide) tl_3 rfl 2 (by decide) (hts _ kf_Lg_22) rfl d_Lg_enter_66 ?_
      refine lv_iconst (v := nI 1) hx hb d_Lg_enter_69 (by decide) ?_
      refine lv_iadd hx hb d_Lg_enter_70 ?_
      refine lv_eqi (nI_add _ _) ?_
      refine nw_put (D := D) (ci := 3) (C := R_Lg) (T := T_Lg) (N := 7) hx hb hts in_Lg ty_Lg tk_Lg nm_Lg hown hK.k hP hD hS (i := 3) (by decide) tl_3 rfl 2 (by decide) (hts _ kf_Lg_22) rfl rfl rfl (Nat.le_of_ble_eq_true rfl) d_Lg_enter_71 (fun H locs hP hS hz hq => ?_)
      have hP : nw D vcl PT ad (tlC cy ad tp tn dn (insR (orB cn cg) rw b ln) (ln + 1) op bg w cp cb pt pn cn cg er rc re) H := nw_congr hP (tlu_ln)
      exact end_V F hr hlk hP hS d_Lg_enter_74
    induction t with
    | zero =>
      intro ht he H locs ls hP hS hl
      refine lv_iload_n hx hb d_Lg_enter_17 rfl (lv_at hl 0 rfl) ?_
      refine lv_if_le (tgt := 57) hx hb d_Lg_enter_18 (by decide) (fun c18 => ?_) (fun c18 => absurd ((nI_zl (by omega)).mpr (by omega)) c18)
      exact fin 0 ht (by rw [he]; rfl) _ _ _ hP hS (lv_sub hl [0, 1, 2, 3] rfl)
    | succ t ih =>
      intro ht he H locs ls hP hS hl
      have hb1 := HR t (by omega)
      have hc1 := HC _ hb1
      have ho1 := HO t (by omega)
      have e0 : shR rw (t + 1) ln (t + 1 - 1) = rw t := by simp only [shR, if_neg (show ¬ (t + 1 < t + 1 - 1 ∧ t + 1 - 1 ≤ ln) by omega)]; rfl
      refine lv_iload_n hx hb d_Lg_enter_17 rfl (lv_at hl 0 rfl) ?_
      refine lv_if_le (tgt := 57) hx hb d_Lg_enter_18 (by decide) (fun c18 => absurd c18 (fun z => absurd ((nI_zl (by omega)).mp z) (by omega))) (fun c18 => ?_)
      refine lv_aload_n hx hb d_Lg_enter_21 rfl (lv_at hl 2 rfl) ?_
      refine lv_iload_n hx hb d_Lg_enter_22 rfl (lv_at hl 0 rfl) ?_
      refine lv_iconst (v := nI 1) hx hb d_Lg_enter_23 (by decide) ?_
      refine lv_isub hx hb d_Lg_enter_24 ?_
      refine lv_eqi (pk_sub (by omega)) ?_
      refine call_A (As := [.int (nI (t + 1 - 1))]) (rest := []) F hK (by have z := c_Lg_block l D cy ad (t + 1 - 1) tp (shR rw (t + 1) ln) pt cn er rc re cg tn ln bg cp cb pn dn op w HL (fun i hi => by unfold shR; split; exact HR _ (by omega); exact HR _ hi) (by omega); rw [e0] at z; exact z) km_Lg_49 ki_Lg_block ks_Lg_block k0_Lg kc_Lg_block kd_Lg_block ⟨Nat.le_of_ble_eq_true rfl, Nat.le_of_ble_eq_true rfl⟩ (nw_recv hK.k hP (i := 3) (by decide) tl_3 rfl) (hP) (hI) hl.1 rfl (Nat.le_of_ble_eq_true rfl) d_Lg_enter_25 ⟨(Nat.le_of_ble_eq_true rfl), (Nat.le_of_ble_eq_true rfl)⟩ hS (fun H1 locs1 hN hS => ?_)
      have hP := hN _ _ _ hP
      generalize H1 = H at hP hS ⊢
      refine lv_iconst (v := nI 1) hx hb d_Lg_enter_28 (by decide) ?_
      refine lv_iconst (v := nI 4) hx hb d_Lg_enter_29 (by decide) ?_
      refine call_R (As := [.int (nI 1), .int (nI 4)]) (rest := []) F hK (c_Bk_number l D cy (fun i => ad (q_bk (rw t) i)) 1 4 (cn (rw t)) (er (rw t)) (rc (rw t)) (re (rw t)) (cg (rw t)) hc1 (HG _ hb1) (by omega) (by omega)) km_Lg_110 ki_Bk_number ks_Bk_number k0_Bk kc_Bk_number kd_Bk_number ⟨Nat.le_of_ble_eq_true rfl, Nat.le_of_ble_eq_true rfl⟩ (nw_recv hK.k hP (i := 10 + rw t) (PT_b (by omega)) (tl_b (by omega)) rfl) (nw_sub hP (q_bk (rw t)) (qs_bk hb1)) (qi_bk hb1 hD) hl.1 rfl (Nat.le_of_ble_eq_true rfl) d_Lg_enter_30 ⟨(Nat.le_of_ble_eq_true rfl), (Nat.le_of_ble_eq_true rfl)⟩ hS (fun H1 locs1 hN hS => ?_)
      have hP := hN _ _ _ hP
      generalize H1 = H at hP hS ⊢
      refine lv_eqi (y := nI (orB cn cg (rw t))) rfl ?_
      refine lv_iload_n hx hb d_Lg_enter_33 rfl (lv_at hl 1 rfl) ?_
      refine lv_icmp_le (tgt := 57) hx hb d_Lg_enter_34 (by decide) (fun c34 => ?_) (fun c34 => ?_)
      · have c34 := (nI_leI (by omega) (by omega)).mp c34
        exact fin (t + 1) ht (by rw [he]; simp only [insP, if_neg (show ¬ orB cn cg b < orB cn cg (rw t) by omega)]) _ _ _ hP hS (lv_sub hl [0, 1, 2, 3] rfl)
      · have c34 := mt (nI_leI (by omega) (by omega)).mpr c34
        refine lv_aload_n hx hb d_Lg_enter_37 rfl (lv_at hl 2 rfl) ?_
        refine nw_get (D := D) (ci := 3) (C := R_Lg) (T := T_Lg) (N := 7) hx hb hts in_Lg hown hK.k hP (i := 3) (by decide) tl_3 rfl 1 (by decide) (hts _ kf_Lg_18) rfl d_Lg_enter_38 ?_
        refine lv_iload_n hx hb d_Lg_enter_41 rfl (lv_at hl 0 rfl) ?_
        refine lv_aload_n hx hb d_Lg_enter_42 rfl (lv_at hl 2 rfl) ?_
        refine nw_get (D := D) (ci := 3) (C := R_Lg) (T := T_Lg) (N := 7) hx hb hts in_Lg hown hK.k hP (i := 3) (by decide) tl_3 rfl 1 (by decide) (hts _ kf_Lg_18) rfl d_Lg_enter_43 ?_
        refine lv_iload_n hx hb d_Lg_enter_46 rfl (lv_at hl 0 rfl) ?_
        refine lv_iconst (v := nI 1) hx hb d_Lg_enter_47 (by decide) ?_
        refine lv_isub hx hb d_Lg_enter_48 ?_
        refine lv_eqi (pk_sub (by omega)) ?_
        refine nw_iald hx hb hK.k hP (i := 5) (by decide) tl_5 1 rfl (vp_in_nI (by omega) (by omega)) d_Lg_enter_49 ?_
        refine lv_eqi (y := nI ((shR rw (t + 1) ln) (t + 1 - 1))) (by rw [nI_clamp (by omega)]) ?_
        refine nw_iast hx hb hK.k hP hD hS (i := 5) (by decide) tl_5 1 rfl (vp_in_nI (by omega) (by omega)) d_Lg_enter_50 (fun H locs hP hS hz hq => ?_)
        rw [nI_clamp (by omega), in_upd, shR_s rw ht] at hP
        have hP : nw D vcl PT ad (tlC cy ad tp tn dn (shR rw t ln) ln op bg w cp cb pt pn cn cg er rc re) H := nw_congr hP (tlu_rw)
        refine lv_iinc (v := nI (t + 1 - 1)) (lv' := [(3, .int (nI (t + 1 - 1))), (2, .int (nI (orB cn cg b))), (0, .ref (ad 3)), (1, .int (nI b))]) hx hb d_Lg_enter_51 hl (k := 0) rfl (nI_dec (by omega)) (by decide) rfl (fun ls hl => ?_)
        refine lv_goto (tgt := 17) hx hb d_Lg_enter_54 (by decide) ?_
        exact ih (by omega) (by rw [he]; simp only [insP, if_pos (show orB cn cg b < orB cn cg (rw t) by omega)]) _ _ _ hP hS (lv_sub hl [0, 1, 2, 3] rfl)
  exact loop ln (Nat.le_refl _) rfl _ _ _ (by rw [shR_0]; exact hP) hS (lv_sub hl [0, 1, 2, 3] rfl)

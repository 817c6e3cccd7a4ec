/-! TornLog$Log.findOnChip -/
def begB (cn : Nat → Nat) (cg : Nat → Nat → Nat) (b : Nat) : Bool := decide (fB cn cg b 0 = 90) && decide (fB cn cg b 5 = 90)
section MO
variable (cn : Nat → Nat) (cg : Nat → Nat → Nat)
/-- of the first i blocks, how many are begun; the row that is made of them; their records; their ends -/
def moL : Nat → Nat
  | 0 => 0
  | i + 1 => if begB cn cg i = true then moL i + 1 else moL i
def moR (rw : Nat → Nat) : Nat → (Nat → Nat)
  | 0 => rw
  | i + 1 => if begB cn cg i = true then insR (orB cn cg) (moR rw i) i (moL cn cg i) else moR rw i
def moC (rc : Nat → Nat) (i : Nat) : Nat → Nat := fun b => if b < i ∧ begB cn cg b = true then (scan (fB cn cg b) 226 6).1 else rc b
def moE (re : Nat → Nat) (i : Nat) : Nat → Nat := fun b => if b < i ∧ begB cn cg b = true then (scan (fB cn cg b) 226 6).2 else re b
end MO
section MOT
variable {cn : Nat → Nat} {cg : Nat → Nat → Nat}
theorem moL_le : ∀ i, moL cn cg i ≤ i
  | 0 => Nat.le_refl _
  | i + 1 => by
    have := moL_le i
    unfold moL
    split <;> omega
theorem insR_mem (f rw : Nat → Nat) (b n : Nat) : ∀ t, t ≤ n → insR f rw b n t = b ∨ ∃ t', t' < n ∧ insR f rw b n t = rw t' := by
  intro t ht
  have hp := insP_le f rw (f b) n
  unfold insR
  by_cases h : t = insP f rw (f b) n
  · left; rw [h, va_up_self]
  · right
    rw [va_up_ne _ _ h]
    unfold shR
    split
    · exact ⟨t - 1, by omega, rfl⟩
    · exact ⟨t, by omega, rfl⟩
theorem moR_spec (rw : Nat → Nat) : ∀ i t, t < moL cn cg i → moR cn cg rw i t < i ∧ begB cn cg (moR cn cg rw i t) = true
  | 0, t, h => by simp [moL] at h
  | i + 1, t, h => by
    unfold moL at h
    unfold moR
    split at h
    · rename_i hb
      rw [if_pos hb]
      rcases insR_mem (orB cn cg) (moR cn cg rw i) i (moL cn cg i) t (by omega) with e | ⟨t', h1, e⟩
      · rw [e]; exact ⟨by omega, hb⟩
      · rw [e]
        have := moR_spec rw i t' h1
        exact ⟨by omega, this.2⟩
    · rename_i hb
      rw [if_neg hb]
      have := moR_spec rw i t h
      exact ⟨by omega, this.2⟩
theorem moC_s {rc : Nat → Nat} {i : Nat} (h : begB cn cg i = true) : va_up (moC cn cg rc i) i (scan (fB cn cg i) 226 6).1 = moC cn cg rc (i + 1) := by
  funext b
  by_cases hb : b = i
  · subst hb; rw [va_up_self]; simp [moC, h]
  · rw [va_up_ne _ _ hb]
    simp only [moC]
    by_cases h2 : b < i ∧ begB cn cg b = true
    · rw [if_pos h2, if_pos ⟨by omega, h2.2⟩]
    · rw [if_neg h2, if_neg (fun q => h2 ⟨by omega, q.2⟩)]
theorem moE_s {re : Nat → Nat} {i : Nat} (h : begB cn cg i = true) : va_up (moE cn cg re i) i (scan (fB cn cg i) 226 6).2 = moE cn cg re (i + 1) := by
  funext b
  by_cases hb : b = i
  · subst hb; rw [va_up_self]; simp [moE, h]
  · rw [va_up_ne _ _ hb]
    simp only [moE]
    by_cases h2 : b < i ∧ begB cn cg b = true
    · rw [if_pos h2, if_pos ⟨by omega, h2.2⟩]
    · rw [if_neg h2, if_neg (fun q => h2 ⟨by omega, q.2⟩)]
theorem moC_n {rc : Nat → Nat} {i : Nat} (h : begB cn cg i = false) : moC cn cg rc (i + 1) = moC cn cg rc i := by
  funext b
  simp only [moC]
  by_cases h2 : b < i ∧ begB cn cg b = true
  · rw [if_pos h2, if_pos ⟨by omega, h2.2⟩]
  · rw [if_neg h2, if_neg (fun q => h2 ⟨by
      rcases (show b < i ∨ b = i by omega) with h3 | h3
      · exact h3
      · subst h3; rw [h] at q; exact absurd q.2 (by decide), q.2⟩)]
theorem moE_n {re : Nat → Nat} {i : Nat} (h : begB cn cg i = false) : moE cn cg re (i + 1) = moE cn cg re i := by
  funext b
  simp only [moE]
  by_cases h2 : b < i ∧ begB cn cg b = true
  · rw [if_pos h2, if_pos ⟨by omega, h2.2⟩]
  · rw [if_neg h2, if_neg (fun q => h2 ⟨by
      rcases (show b < i ∨ b = i by omega) with h3 | h3
      · exact h3
      · subst h3; rw [h] at q; exact absurd q.2 (by decide), q.2⟩)]
theorem moL_s {i : Nat} (h : begB cn cg i = true) : moL cn cg (i + 1) = moL cn cg i + 1 := by simp [moL, h]
theorem moR_s {rw : Nat → Nat} {i : Nat} (h : begB cn cg i = true) : moR cn cg rw (i + 1) = insR (orB cn cg) (moR cn cg rw i) i (moL cn cg i) := by simp [moR, h]
theorem moC_0 {rc : Nat → Nat} : moC cn cg rc 0 = rc := by funext b; simp [moC]
theorem moE_0 {re : Nat → Nat} : moE cn cg re 0 = re := by funext b; simp [moE]
end MOT
set_option maxRecDepth 100000 in
set_option maxHeartbeats 4000000 in
theorem c_Lg_findOnChip (l : Launch) (D : va_G) (cy : Nat → ClassId) (ad : Nat → Nat) (tp rw pt cn er rc re : Nat → Nat) (cg : Nat → Nat → Nat) (tn ln bg cp cb pn : Nat) (dn op w : Bool) (HC : ∀ b, b < 24 → cn b < 2 ^ 16) (HG : ∀ b, b < 24 → ∀ j, j < cn b → cg b j < 256) (HO : ∀ b, b < 24 → begB cn cg b = true → orB cn cg b < 2 ^ 31) : mtV l y_Lg_findOnChip b_Lg_findOnChip 2 { frames := 5, cells := 0, slots := 0, locals := 110 } D cy [.ref (ad 3)] PT ad (tlC cy ad tp tn dn rw ln op bg w cp cb pt pn cn cg er rc re) (tlC cy ad tp tn dn (moR cn cg rw 24) (moL cn cg 24) false bg w cp cb pt pn cn cg er (moC cn cg rc 24) (moE cn cg re 24)) := by
  intro sz
  refine nm_ofW (cc := b_Lg_findOnChip) (maxL := 2) (ret := none) (own := R_Lg) (by decide) (Nat.le_of_ble_eq_true rfl) rfl ?_
  intro p e s m below meth c ls F hr hlk hnm hv hl
  obtain ⟨hx, hb, hml, hown, hts⟩ := id F
  obtain ⟨rfl, hP, hK, hI⟩ := hv
  have hD : nd (na PT ad s.heap.size) PT ad := nd_self hI
  have hA : ∀ q, s.heap.size ≤ q → na PT ad s.heap.size q := fun q h => Or.inr h
  have hS : va_S (na PT ad s.heap.size) s.heap s.heap [] := va_S.rf
  have hl : lv_has ls 2 [(0, .ref (ad 3))] := hl
  refine lv_aload_n hx hb d_Lg_findOnChip_0 rfl (lv_at hl 0 rfl) ?_
  refine lv_iconst (v := nI 0) hx hb d_Lg_findOnChip_1 (by decide) ?_
  refine nw_put (D := D) (ci := 3) (C := R_Lg) (T := T_Lg) (N := 7) hx hb hts in_Lg ty_Lg tk_Lg nm_Lg hown hK.k hP hD hS (i := 3) (by decide) tl_3 rfl 2 (by decide) (hts _ kf_Lg_22) rfl rfl rfl (Nat.le_of_ble_eq_true rfl) d_Lg_findOnChip_2 (fun H locs hP hS hz hq => ?_)
  have hP : nw D vcl PT ad (tlC cy ad tp tn dn rw 0 op bg w cp cb pt pn cn cg er rc re) H := nw_congr hP (tlu_ln)
  refine lv_aload_n hx hb d_Lg_findOnChip_5 rfl (lv_at hl 0 rfl) ?_
  refine lv_iconst (v := bI false) hx hb d_Lg_findOnChip_6 (by decide) ?_
  refine nw_put (D := D) (ci := 3) (C := R_Lg) (T := T_Lg) (N := 7) hx hb hts in_Lg ty_Lg tk_Lg nm_Lg hown hK.k hP hD hS (i := 3) (by decide) tl_3 rfl 3 (by decide) (hts _ kf_Lg_26) rfl (bI_nar _) (bI_fit _) (Nat.le_of_ble_eq_true rfl) d_Lg_findOnChip_7 (fun H locs hP hS hz hq => ?_)
  have hP : nw D vcl PT ad (tlC cy ad tp tn dn rw 0 false bg w cp cb pt pn cn cg er rc re) H := nw_congr hP (tlu_op)
  refine lv_iconst (v := nI 0) hx hb d_Lg_findOnChip_10 (by decide) ?_
  refine lv_istore_n (lv' := [(1, .int (nI 0)), (0, .ref (ad 3))]) hx hb d_Lg_findOnChip_11 rfl hl (by decide) rfl (fun ls hl => ?_)
  have loop : ∀ (j i : Nat), i + j = 24 → ∀ (H : Heap) (locs : List Loc) (ls : Array Slot), nw D vcl PT ad (tlC cy ad tp tn dn (moR cn cg rw i) (moL cn cg i) false bg w cp cb pt pn cn cg er (moC cn cg rc i) (moE cn cg re i)) H → va_S (na PT ad s.heap.size) s.heap H locs → lv_has ls 2 [(1, .int (nI i)), (0, .ref (ad 3))] → W p l e { frames := 5, cells := 0, slots := 0, locals := 110 } s m [.ref (ad 3)].toArray below meth c H locs 0 0 (MQ below (va_Qv (fun _ : Unit => True) (fun _ t => nw D vcl PT ad (tlC cy ad tp tn dn (moR cn cg rw 24) (moL cn cg 24) false bg w cp cb pt pn cn cg er (moC cn cg rc 24) (moE cn cg re 24)) t.heap) (na PT ad s.heap.size)) [.ref (ad 3)].toArray s 0 0 (na PT ad s.heap.size)) (F0 m 12 ls []) := by
    intro j
    induction j with
    | zero =>
      intro i hi H locs ls hP hS hl
      obtain rfl : i = 24 := by omega
      refine lv_iload_n hx hb d_Lg_findOnChip_12 rfl (lv_at hl 0 rfl) ?_
      refine lv_bipush (v := nI 24) hx hb d_Lg_findOnChip_13 (by decide) ?_
      refine lv_icmp_ge (tgt := 50) hx hb d_Lg_findOnChip_15 (by decide) (fun c15 => ?_) (fun c15 => absurd ((nI_leI (by omega) (by omega)).mpr (by omega)) c15)
      exact end_V F hr hlk hP hS d_Lg_findOnChip_50
    | succ j ih =>
      intro i hi H locs ls hP hS hl
      have hi24 : i < 24 := by omega
      have hc0 := HC i hi24
      have hml0 := moL_le (cn := cn) (cg := cg) i
      have hsp := moR_spec (cn := cn) (cg := cg) rw i
      refine lv_iload_n hx hb d_Lg_findOnChip_12 rfl (lv_at hl 0 rfl) ?_
      refine lv_bipush (v := nI 24) hx hb d_Lg_findOnChip_13 (by decide) ?_
      refine lv_icmp_ge (tgt := 50) hx hb d_Lg_findOnChip_15 (by decide) (fun c15 => absurd c15 (fun z => absurd ((nI_leI (by omega) (by omega)).mp z) (by omega))) (fun c15 => ?_)
      refine lv_aload_n hx hb d_Lg_findOnChip_18 rfl (lv_at hl 1 rfl) ?_
      refine nw_get (D := D) (ci := 3) (C := R_Lg) (T := T_Lg) (N := 7) hx hb hts in_Lg hown hK.k hP (i := 3) (by decide) tl_3 rfl 0 (by decide) (hts _ kf_Lg_11) rfl d_Lg_findOnChip_19 ?_
      refine lv_iload_n hx hb d_Lg_findOnChip_22 rfl (lv_at hl 0 rfl) ?_
      refine nw_aald hx hb hK.k hP (i := 4) (by decide) tl_4 4 rfl (C := R_Bk) (vp_in_nI (by omega) (by omega)) (r := ad (10 + i)) (by rw [nI_clamp (by omega)]; exact if_pos (by omega)) d_Lg_findOnChip_23 ?_
      refine call_R (As := []) (rest := []) F hK (c_Bk_isBegun l D cy (fun t => ad (q_bk i t)) (cn i) (er i) (moC cn cg rc i i) (moE cn cg re i i) (cg i) hc0 (HG _ hi24)) km_Lg_106 ki_Bk_isBegun ks_Bk_isBegun k0_Bk kc_Bk_isBegun kd_Bk_isBegun ⟨Nat.le_of_ble_eq_true rfl, Nat.le_of_ble_eq_true rfl⟩ (nw_recv hK.k hP (i := 10 + i) (PT_b (by omega)) (tl_b (by omega)) rfl) (nw_sub hP (q_bk i) (qs_bk hi24)) (qi_bk hi24 hD) hl.1 rfl (Nat.le_of_ble_eq_true rfl) d_Lg_findOnChip_24 ⟨(Nat.le_of_ble_eq_true rfl), (Nat.le_of_ble_eq_true rfl)⟩ hS (fun H1 locs1 hN hS => ?_)
      have hP := hN _ _ _ hP
      generalize H1 = H at hP hS ⊢
      refine lv_eqi (y := bI (begB cn cg i)) rfl ?_
      refine lv_if_eq (tgt := 44) hx hb d_Lg_findOnChip_27 (by decide) (fun c27 => ?_) (fun c27 => ?_)
      · have c27 := bI_eq0.mp c27
        refine lv_iinc (v := nI (i + 1)) (lv' := [(1, .int (nI (i + 1))), (0, .ref (ad 3))]) hx hb d_Lg_findOnChip_44 hl (k := 0) rfl (nI_inc _) (by decide) rfl (fun ls hl => ?_)
        refine lv_goto (tgt := 12) hx hb d_Lg_findOnChip_47 (by decide) ?_
        refine ih (i + 1) (by omega) _ _ _ ?_ hS (lv_sub hl [0, 1] rfl)
        have e1 : moL cn cg (i + 1) = moL cn cg i := by simp [moL, c27]
        have e2 : moR cn cg rw (i + 1) = moR cn cg rw i := by simp [moR, c27]
        rw [e1, e2, moC_n c27, moE_n c27]
        exact hP
      · have c27 := mt bI_eq0.mpr c27
        have c27 : begB cn cg i = true := by simpa using c27
        refine lv_aload_n hx hb d_Lg_findOnChip_30 rfl (lv_at hl 1 rfl) ?_
        refine nw_get (D := D) (ci := 3) (C := R_Lg) (T := T_Lg) (N := 7) hx hb hts in_Lg hown hK.k hP (i := 3) (by decide) tl_3 rfl 0 (by decide) (hts _ kf_Lg_11) rfl d_Lg_findOnChip_31 ?_
        refine lv_iload_n hx hb d_Lg_findOnChip_34 rfl (lv_at hl 0 rfl) ?_
        refine nw_aald hx hb hK.k hP (i := 4) (by decide) tl_4 4 rfl (C := R_Bk) (vp_in_nI (by omega) (by omega)) (r := ad (10 + i)) (by rw [nI_clamp (by omega)]; exact if_pos (by omega)) d_Lg_findOnChip_35 ?_
        refine call_V (As := []) (rest := []) F hK (c_Bk_findRecords l D cy (fun t => ad (q_bk i t)) (cn i) (er i) (moC cn cg rc i i) (moE cn cg re i i) (cg i) hc0 (HG _ hi24) (scan (fB cn cg i) 226 6).1 (scan (fB cn cg i) 226 6).2 rfl) km_Lg_75 ki_Bk_findRecords ks_Bk_findRecords k0_Bk kc_Bk_findRecords kd_Bk_findRecords ⟨Nat.le_of_ble_eq_true rfl, Nat.le_of_ble_eq_true rfl⟩ (nw_recv hK.k hP (i := 10 + i) (PT_b (by omega)) (tl_b (by omega)) rfl) (nw_sub hP (q_bk i) (qs_bk hi24)) (qi_bk hi24 hD) hl.1 rfl (Nat.le_of_ble_eq_true rfl) d_Lg_findOnChip_36 ⟨(Nat.le_of_ble_eq_true rfl), (Nat.le_of_ble_eq_true rfl)⟩ hS (na_sub hD hS hA (q_bk i) (qp_bk hi24)) (fun H1 locs1 hP1 hk1 hS => ?_)
        have hP : nw D vcl PT ad (tlC cy ad tp tn dn (moR cn cg rw i) (moL cn cg i) false bg w cp cb pt pn cn cg er (moC cn cg rc (i + 1)) (moE cn cg re (i + 1))) H1 := by have z := qj_bk hi24 hP hD hk1 hP1; simp only [va_up_id, moC_s c27, moE_s c27] at z; exact z
        generalize H1 = H at hP hS ⊢
        refine lv_aload_n hx hb d_Lg_findOnChip_39 rfl (lv_at hl 1 rfl) ?_
        refine lv_iload_n hx hb d_Lg_findOnChip_40 rfl (lv_at hl 0 rfl) ?_
        refine call_V (As := [.int (nI i)]) (rest := []) F hK (c_Lg_enter l D cy ad i tp (moR cn cg rw i) pt cn er (moC cn cg rc (i + 1)) (moE cn cg re (i + 1)) cg tn (moL cn cg i) bg cp cb pn dn false w (by omega) (fun t ht => by have := (hsp t ht).1; omega) HC HG hi24 (by omega) (fun t ht => HO _ (by have := (hsp t ht).1; omega) (hsp t ht).2) (HO i hi24 c27)) km_Lg_78 ki_Lg_enter ks_Lg_enter k0_Lg kc_Lg_enter kd_Lg_enter ⟨Nat.le_of_ble_eq_true rfl, Nat.le_of_ble_eq_true rfl⟩ (nw_recv hK.k hP (i := 3) (by decide) tl_3 rfl) (hP) (hI) hl.1 rfl (Nat.le_of_ble_eq_true rfl) d_Lg_findOnChip_41 ⟨(Nat.le_of_ble_eq_true rfl), (Nat.le_of_ble_eq_true rfl)⟩ hS (na_le hS) (fun H1 locs1 hP1 hk1 hS => ?_)
        have hP : nw D vcl PT ad (tlC cy ad tp tn dn (moR cn cg rw (i + 1)) (moL cn cg (i + 1)) false bg w cp cb pt pn cn cg er (moC cn cg rc (i + 1)) (moE cn cg re (i + 1))) H1 := by rw [moL_s c27, moR_s c27]; exact hP1
        generalize H1 = H at hP hS ⊢
        refine lv_iinc (v := nI (i + 1)) (lv' := [(1, .int (nI (i + 1))), (0, .ref (ad 3))]) hx hb d_Lg_findOnChip_44 hl (k := 0) rfl (nI_inc _) (by decide) rfl (fun ls hl => ?_)
        refine lv_goto (tgt := 12) hx hb d_Lg_findOnChip_47 (by decide) ?_
        exact ih (i + 1) (by omega) _ _ _ hP hS (lv_sub hl [0, 1] rfl)
  exact loop 24 0 (by omega) _ _ _ (by rw [moC_0, moE_0]; exact hP) hS (lv_sub hl [0, 1] rfl)

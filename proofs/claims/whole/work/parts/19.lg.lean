/-! TornLog$Log: what reads, and drop -/
section LGP
def sumR (rc rw : Nat → Nat) : Nat → Nat
  | 0 => 0
  | i + 1 => sumR rc rw i + rc (rw i)
theorem sumR_lt {rc rw : Nat → Nat} {ln : Nat} (h : ∀ i, i < ln → rc (rw i) < 2 ^ 16) : ∀ i, i ≤ ln → sumR rc rw i ≤ i * 2 ^ 16
  | 0, _ => by simp [sumR]
  | i + 1, hi => by
    have h1 := sumR_lt h i (by omega)
    have h2 := h i (by omega)
    show sumR rc rw i + rc (rw i) ≤ (i + 1) * 2 ^ 16
    omega
/-- an index, or -1 -/
def oI : Option Nat → Int32
  | none => -1
  | some b => nI b
def lea (er : Nat → Nat) (held : Nat → Bool) : Nat → Option Nat
  | 0 => none
  | i + 1 => if held i = true then lea er held i else match lea er held i with
    | none => some i
    | some b => if er i < er b then some i else some b
theorem lea_lt {er : Nat → Nat} {held : Nat → Bool} : ∀ {i b : Nat}, lea er held i = some b → b < i
  | 0, b, h => by simp [lea] at h
  | i + 1, b, h => by
    unfold lea at h
    split at h
    · have := lea_lt h; omega
    · split at h
      · simp at h; omega
      · rename_i b' hb'
        have h3 := lea_lt hb'
        split at h <;> (simp at h; omega)
def heldB (rw : Nat → Nat) (ln : Nat) (k : Nat) : Bool := decide (∃ i, i < ln ∧ rw i = k)
/-- the row without its place i -/
def dropR (rw : Nat → Nat) (i n : Nat) : Nat → Nat := fun j => if i ≤ j ∧ j < n then rw (j + 1) else rw j
end LGP
set_option maxRecDepth 100000 in
set_option maxHeartbeats 4000000 in
theorem c_Lg_block (l : Launch) (D : va_G) (cy : Nat → ClassId) (ad : Nat → Nat) (i : Nat) (tp rw pt cn er rc re : Nat → Nat) (cg : Nat → Nat → Nat) (tn ln bg cp cb pn : Nat) (dn op w : Bool) (HL : ln ≤ 24) (HR : ∀ i, i < ln → rw i < 24) (hi : i < ln) : mtA l y_Lg_block b_Lg_block 2 (some (.object "TornLog$Block")) { frames := 0, cells := 0, slots := 0, locals := 0 } D cy [.ref (ad 3), .int (nI i)] PT ad (tlC cy ad tp tn dn rw ln op bg w cp cb pt pn cn cg er rc re) (ad (10 + rw i)) := by
  intro sz
  refine nm_ofW (cc := b_Lg_block) (maxL := 2) (ret := (some (.object "TornLog$Block"))) (own := R_Lg) (by decide) (Nat.le_of_ble_eq_true rfl) rfl ?_
  intro p e s m below meth c ls F hr hlk hnm hv hl
  obtain ⟨hx, hb, hml, hown, hts⟩ := id F
  obtain ⟨rfl, hP, hK, hI⟩ := hv
  have hD : nd (na PT ad s.heap.size) PT ad := nd_self hI
  have hS : va_S (fun _ => False) s.heap s.heap [] := va_S.rf
  have hl : lv_has ls 2 [(0, .ref (ad 3)), (1, .int (nI i))] := hl
  have hb0 := HR i hi
  refine lv_aload_n hx hb d_Lg_block_0 rfl (lv_at hl 0 rfl) ?_
  refine nw_get (D := D) (ci := 3) (C := R_Lg) (T := T_Lg) (N := 7) hx hb hts in_Lg hown hK.k hP (i := 3) (by decide) tl_3 rfl 0 (by decide) (hts _ kf_Lg_11) rfl d_Lg_block_1 ?_
  refine lv_aload_n hx hb d_Lg_block_4 rfl (lv_at hl 0 rfl) ?_
  refine nw_get (D := D) (ci := 3) (C := R_Lg) (T := T_Lg) (N := 7) hx hb hts in_Lg hown hK.k hP (i := 3) (by decide) tl_3 rfl 1 (by decide) (hts _ kf_Lg_18) rfl d_Lg_block_5 ?_
  refine lv_iload_n hx hb d_Lg_block_8 rfl (lv_at hl 1 rfl) ?_
  refine nw_iald hx hb hK.k hP (i := 5) (by decide) tl_5 1 rfl (vp_in_nI (by omega) (by omega)) d_Lg_block_9 ?_
  refine lv_eqi (y := nI (rw i)) (by rw [nI_clamp (by omega)]) ?_
  refine nw_aald hx hb hK.k hP (i := 4) (by decide) tl_4 4 rfl (C := R_Bk) (vp_in_nI (by omega) (by omega)) (r := ad (10 + (rw i))) (by rw [nI_clamp (by omega)]; exact if_pos (by omega)) d_Lg_block_10 ?_
  exact end_A F hr hlk hS d_Lg_block_11
set_option maxRecDepth 100000 in
set_option maxHeartbeats 4000000 in
theorem c_Lg_hasRoom (l : Launch) (D : va_G) (cy : Nat → ClassId) (ad : Nat → Nat) (z : Nat) (tp rw pt cn er rc re : Nat → Nat) (cg : Nat → Nat → Nat) (tn ln bg cp cb pn : Nat) (dn op w : Bool) (HL : ln ≤ 24) (HR : ∀ i, i < ln → rw i < 24) (HC : ∀ b, b < 24 → cn b < 2 ^ 16) (HG : ∀ b, b < 24 → ∀ j, j < cn b → cg b j < 256) (HQ : ∀ b, b < 24 → rc b < 2 ^ 16 ∧ re b < 2 ^ 16) (hz : z < 2 ^ 20) : mtR l y_Lg_hasRoom b_Lg_hasRoom 2 (some .boolean) { frames := 1, cells := 0, slots := 0, locals := 21 } D cy [.ref (ad 3), .int (nI z)] PT ad (tlC cy ad tp tn dn rw ln op bg w cp cb pt pn cn cg er rc re) (bI (op && (decide (0 < ln) && decide (re (rw (ln - 1)) + z ≤ 2046)))) := by
  intro sz
  refine nm_ofW (cc := b_Lg_hasRoom) (maxL := 2) (ret := (some .boolean)) (own := R_Lg) (by decide) (Nat.le_of_ble_eq_true rfl) rfl ?_
  intro p e s m below meth c ls F hr hlk hnm hv hl
  obtain ⟨hx, hb, hml, hown, hts⟩ := id F
  obtain ⟨rfl, hP, hK, hI⟩ := hv
  have hD : nd (na PT ad s.heap.size) PT ad := nd_self hI
  have hS : va_S (fun _ => False) s.heap s.heap [] := va_S.rf
  have hl : lv_has ls 2 [(0, .ref (ad 3)), (1, .int (nI z))] := hl
  refine lv_aload_n hx hb d_Lg_hasRoom_0 rfl (lv_at hl 0 rfl) ?_
  refine nw_get (D := D) (ci := 3) (C := R_Lg) (T := T_Lg) (N := 7) hx hb hts in_Lg hown hK.k hP (i := 3) (by decide) tl_3 rfl 3 (by decide) (hts _ kf_Lg_26) rfl d_Lg_hasRoom_1 ?_
  refine lv_if_eq (tgt := 35) hx hb d_Lg_hasRoom_4 (by decide) (fun c4 => ?_) (fun c4 => ?_)
  · have c4 := bI_eq0.mp c4
    refine lv_iconst (v := nI 0) hx hb d_Lg_hasRoom_35 (by decide) ?_
    rw [show (op && (decide (0 < ln) && decide (re (rw (ln - 1)) + z ≤ 2046))) = false by rw [c4]; rfl]
    exact end_R F hr hlk rfl hS d_Lg_hasRoom_36
  · have c4 := mt bI_eq0.mpr c4
    have c4 : op = true := by simpa using c4
    refine lv_aload_n hx hb d_Lg_hasRoom_7 rfl (lv_at hl 0 rfl) ?_
    refine nw_get (D := D) (ci := 3) (C := R_Lg) (T := T_Lg) (N := 7) hx hb hts in_Lg hown hK.k hP (i := 3) (by decide) tl_3 rfl 2 (by decide) (hts _ kf_Lg_22) rfl d_Lg_hasRoom_8 ?_
    refine lv_if_le (tgt := 35) hx hb d_Lg_hasRoom_11 (by decide) (fun c11 => ?_) (fun c11 => ?_)
    · have c11 := (nI_zl (by omega)).mp c11
      refine lv_iconst (v := nI 0) hx hb d_Lg_hasRoom_35 (by decide) ?_
      rw [show (op && (decide (0 < ln) && decide (re (rw (ln - 1)) + z ≤ 2046))) = false by rw [c4, decide_eq_false (show ¬ 0 < ln by omega)]; rfl]
      exact end_R F hr hlk rfl hS d_Lg_hasRoom_36
    · have c11 := mt (nI_zl (by omega)).mpr c11
      have hb0 := HR (ln - 1) (by omega)
      have hq0 := HQ _ hb0
      have hc0 := HC _ hb0
      refine lv_aload_n hx hb d_Lg_hasRoom_14 rfl (lv_at hl 0 rfl) ?_
      refine lv_aload_n hx hb d_Lg_hasRoom_15 rfl (lv_at hl 0 rfl) ?_
      refine nw_get (D := D) (ci := 3) (C := R_Lg) (T := T_Lg) (N := 7) hx hb hts in_Lg hown hK.k hP (i := 3) (by decide) tl_3 rfl 2 (by decide) (hts _ kf_Lg_22) rfl d_Lg_hasRoom_16 ?_
      refine lv_iconst (v := nI 1) hx hb d_Lg_hasRoom_19 (by decide) ?_
      refine lv_isub hx hb d_Lg_hasRoom_20 ?_
      refine lv_eqi (pk_sub (by omega)) ?_
      refine call_A (As := [.int (nI (ln - 1))]) (rest := []) F hK (c_Lg_block l D cy ad (ln - 1) tp rw pt cn er rc re cg tn ln bg cp cb pn dn op w HL HR (by omega)) km_Lg_49 ki_Lg_block ks_Lg_block k0_Lg kc_Lg_block kd_Lg_block ⟨Nat.le_of_ble_eq_true rfl, Nat.le_of_ble_eq_true rfl⟩ (nw_recv hK.k hP (i := 3) (by decide) tl_3 rfl) (hP) (hI) hl.1 rfl (Nat.le_of_ble_eq_true rfl) d_Lg_hasRoom_21 ⟨(Nat.le_of_ble_eq_true rfl), (Nat.le_of_ble_eq_true rfl)⟩ hS (fun H1 locs1 hN hS => ?_)
      have hP := hN _ _ _ hP
      generalize H1 = H at hP hS ⊢
      refine lv_iload_n hx hb d_Lg_hasRoom_24 rfl (lv_at hl 1 rfl) ?_
      refine call_R (As := [.int (nI z)]) (rest := []) F hK (c_Bk_hasRoom l D cy (fun i => ad (q_bk (rw (ln - 1)) i)) z (cn (rw (ln - 1))) (er (rw (ln - 1))) (rc (rw (ln - 1))) (re (rw (ln - 1))) (cg (rw (ln - 1))) hc0 (HG _ hb0) hz (by omega)) km_Lg_53 ki_Bk_hasRoom ks_Bk_hasRoom k0_Bk kc_Bk_hasRoom kd_Bk_hasRoom ⟨Nat.le_of_ble_eq_true rfl, Nat.le_of_ble_eq_true rfl⟩ (nw_recv hK.k hP (i := 10 + (rw (ln - 1))) (PT_b (by omega)) (tl_b (by omega)) rfl) (nw_sub hP (q_bk (rw (ln - 1))) (qs_bk hb0)) (qi_bk hb0 hD) hl.1 rfl (Nat.le_of_ble_eq_true rfl) d_Lg_hasRoom_25 ⟨(Nat.le_of_ble_eq_true rfl), (Nat.le_of_ble_eq_true rfl)⟩ hS (fun H1 locs1 hN hS => ?_)
      have hP := hN _ _ _ hP
      generalize H1 = H at hP hS ⊢
      refine lv_if_eq (tgt := 35) hx hb d_Lg_hasRoom_28 (by decide) (fun c28 => ?_) (fun c28 => ?_)
      · have c28 := bI_eq0.mp c28
        refine lv_iconst (v := nI 0) hx hb d_Lg_hasRoom_35 (by decide) ?_
        rw [show (op && (decide (0 < ln) && decide (re (rw (ln - 1)) + z ≤ 2046))) = false by rw [c4, c28, decide_eq_true (show 0 < ln by omega)]; rfl]
        exact end_R F hr hlk rfl hS d_Lg_hasRoom_36
      · have c28 := mt bI_eq0.mpr c28
        refine lv_iconst (v := nI 1) hx hb d_Lg_hasRoom_31 (by decide) ?_
        refine lv_goto (tgt := 36) hx hb d_Lg_hasRoom_32 (by decide) ?_
        rw [show (op && (decide (0 < ln) && decide (re (rw (ln - 1)) + z ≤ 2046))) = true by rw [c4, show decide (re (rw (ln - 1)) + z ≤ 2046) = true by simpa using c28, decide_eq_true (show 0 < ln by omega)]; rfl]
        exact end_R F hr hlk rfl hS d_Lg_hasRoom_36
set_option maxRecDepth 100000 in
set_option maxHeartbeats 4000000 in
theorem c_Lg_recordsOfLast (l : Launch) (D : va_G) (cy : Nat → ClassId) (ad : Nat → Nat) (tp rw pt cn er rc re : Nat → Nat) (cg : Nat → Nat → Nat) (tn ln bg cp cb pn : Nat) (dn op w : Bool) (HL : ln ≤ 24) (HR : ∀ i, i < ln → rw i < 24) (hln : 0 < ln) : mtR l y_Lg_recordsOfLast b_Lg_recordsOfLast 1 (some .int) { frames := 1, cells := 0, slots := 0, locals := 21 } D cy [.ref (ad 3)] PT ad (tlC cy ad tp tn dn rw ln op bg w cp cb pt pn cn cg er rc re) (nI (rc (rw (ln - 1)))) := by
  intro sz
  refine nm_ofW (cc := b_Lg_recordsOfLast) (maxL := 1) (ret := (some .int)) (own := R_Lg) (by decide) (Nat.le_of_ble_eq_true rfl) rfl ?_
  intro p e s m below meth c ls F hr hlk hnm hv hl
  obtain ⟨hx, hb, hml, hown, hts⟩ := id F
  obtain ⟨rfl, hP, hK, hI⟩ := hv
  have hD : nd (na PT ad s.heap.size) PT ad := nd_self hI
  have hS : va_S (fun _ => False) s.heap s.heap [] := va_S.rf
  have hl : lv_has ls 1 [(0, .ref (ad 3))] := hl
  have hb0 := HR (ln - 1) (by omega)
  refine lv_aload_n hx hb d_Lg_recordsOfLast_0 rfl (lv_at hl 0 rfl) ?_
  refine nw_get (D := D) (ci := 3) (C := R_Lg) (T := T_Lg) (N := 7) hx hb hts in_Lg hown hK.k hP (i := 3) (by decide) tl_3 rfl 2 (by decide) (hts _ kf_Lg_22) rfl d_Lg_recordsOfLast_1 ?_
  refine lv_if_le (tgt := 23) hx hb d_Lg_recordsOfLast_4 (by decide) (fun c4 => absurd c4 (fun z => absurd ((nI_zl (by omega)).mp z) (by omega))) (fun c4 => ?_)
  refine lv_aload_n hx hb d_Lg_recordsOfLast_7 rfl (lv_at hl 0 rfl) ?_
  refine lv_aload_n hx hb d_Lg_recordsOfLast_8 rfl (lv_at hl 0 rfl) ?_
  refine nw_get (D := D) (ci := 3) (C := R_Lg) (T := T_Lg) (N := 7) hx hb hts in_Lg hown hK.k hP (i := 3) (by decide) tl_3 rfl 2 (by decide) (hts _ kf_Lg_22) rfl d_Lg_recordsOfLast_9 ?_
  refine lv_iconst (v := nI 1) hx hb d_Lg_recordsOfLast_12 (by decide) ?_
  refine lv_isub hx hb d_Lg_recordsOfLast_13 ?_
  refine lv_eqi (pk_sub (by omega)) ?_
  refine call_A (As := [.int (nI (ln - 1))]) (rest := []) F hK (c_Lg_block l D cy ad (ln - 1) tp rw pt cn er rc re cg tn ln bg cp cb pn dn op w HL HR (by omega)) km_Lg_49 ki_Lg_block ks_Lg_block k0_Lg kc_Lg_block kd_Lg_block ⟨Nat.le_of_ble_eq_true rfl, Nat.le_of_ble_eq_true rfl⟩ (nw_recv hK.k hP (i := 3) (by decide) tl_3 rfl) (hP) (hI) hl.1 rfl (Nat.le_of_ble_eq_true rfl) d_Lg_recordsOfLast_14 ⟨(Nat.le_of_ble_eq_true rfl), (Nat.le_of_ble_eq_true rfl)⟩ hS (fun H1 locs1 hN hS => ?_)
  have hP := hN _ _ _ hP
  generalize H1 = H at hP hS ⊢
  refine nw_getN (D := D) (ci := 0) (C := R_Bk) (T := T_Bk) (N := 5) hx hb hts in_Bk hown hK.k hP (i := 10 + (rw (ln - 1))) (PT_b (by omega)) (tl_b (by omega)) rfl 3 (by decide) (hK.nest 5 (by decide) rfl) rfl d_Lg_recordsOfLast_17 ?_
  refine lv_goto (tgt := 24) hx hb d_Lg_recordsOfLast_20 (by decide) ?_
  exact end_R F hr hlk rfl hS d_Lg_recordsOfLast_24
set_option maxRecDepth 100000 in
set_option maxHeartbeats 4000000 in
theorem c_Lg_records (l : Launch) (D : va_G) (cy : Nat → ClassId) (ad : Nat → Nat) (tp rw pt cn er rc re : Nat → Nat) (cg : Nat → Nat → Nat) (tn ln bg cp cb pn : Nat) (dn op w : Bool) (HL : ln ≤ 24) (HR : ∀ i, i < ln → rw i < 24) (HQ : ∀ b, b < 24 → rc b < 2 ^ 16 ∧ re b < 2 ^ 16) : mtR l y_Lg_records b_Lg_records 3 (some .int) { frames := 1, cells := 0, slots := 0, locals := 21 } D cy [.ref (ad 3)] PT ad (tlC cy ad tp tn dn rw ln op bg w cp cb pt pn cn cg er rc re) (nI (sumR rc rw ln)) := by
  intro sz
  refine nm_ofW (cc := b_Lg_records) (maxL := 3) (ret := (some .int)) (own := R_Lg) (by decide) (Nat.le_of_ble_eq_true rfl) rfl ?_
  intro p e s m below meth c ls F hr hlk hnm hv hl
  obtain ⟨hx, hb, hml, hown, hts⟩ := id F
  obtain ⟨rfl, hP, hK, hI⟩ := hv
  have hD : nd (na PT ad s.heap.size) PT ad := nd_self hI
  have hS : va_S (fun _ => False) s.heap s.heap [] := va_S.rf
  have hl : lv_has ls 3 [(0, .ref (ad 3))] := hl
  refine lv_iconst (v := nI 0) hx hb d_Lg_records_0 (by decide) ?_
  refine lv_istore_n (lv' := [(1, .int (nI 0)), (0, .ref (ad 3))]) hx hb d_Lg_records_1 rfl hl (by decide) rfl (fun ls hl => ?_)
  refine lv_iconst (v := nI 0) hx hb d_Lg_records_2 (by decide) ?_
  refine lv_istore_n (lv' := [(2, .int (nI 0)), (1, .int (nI 0)), (0, .ref (ad 3))]) hx hb d_Lg_records_3 rfl hl (by decide) rfl (fun ls hl => ?_)
  have hsum := sumR_lt (rc := rc) (rw := rw) (ln := ln) (fun i hi => (HQ _ (HR i hi)).1)
  have loop : ∀ (j i : Nat), i + j = ln → ∀ (H : Heap) (locs : List Loc) (ls : Array Slot), nw D vcl PT ad (tlC cy ad tp tn dn rw ln op bg w cp cb pt pn cn cg er rc re) H → va_S (fun _ => False) s.heap H locs → lv_has ls 3 [(2, .int (nI i)), (1, .int (nI (sumR rc rw i))), (0, .ref (ad 3))] → W p l e { frames := 1, cells := 0, slots := 0, locals := 21 } s m [.ref (ad 3)].toArray below meth c H locs 0 0 (MQ below (va_Qi (fun r' (_ : Unit) => r' = nI (sumR rc rw ln)) (fun _ _ => True) (fun _ => False)) [.ref (ad 3)].toArray s 0 0 (fun _ => False)) (F0 m 4 ls []) := by
    intro j
    induction j with
    | zero =>
      intro i hi H locs ls hP hS hl
      obtain rfl : i = ln := by omega
      refine lv_iload_n hx hb d_Lg_records_4 rfl (lv_at hl 0 rfl) ?_
      refine lv_aload_n hx hb d_Lg_records_5 rfl (lv_at hl 2 rfl) ?_
      refine nw_get (D := D) (ci := 3) (C := R_Lg) (T := T_Lg) (N := 7) hx hb hts in_Lg hown hK.k hP (i := 3) (by decide) tl_3 rfl 2 (by decide) (hts _ kf_Lg_22) rfl d_Lg_records_6 ?_
      refine lv_icmp_ge (tgt := 29) hx hb d_Lg_records_9 (by decide) (fun c9 => ?_) (fun c9 => absurd ((nI_leI (by omega) (by omega)).mpr (by omega)) c9)
      refine lv_iload_n hx hb d_Lg_records_29 rfl (lv_at hl 1 rfl) ?_
      exact end_R F hr hlk rfl hS d_Lg_records_30
    | succ j ih =>
      intro i hi H locs ls hP hS hl
      have hb0 := HR i (by omega)
      have hq0 := HQ _ hb0
      have hs0 := hsum i (by omega)
      refine lv_iload_n hx hb d_Lg_records_4 rfl (lv_at hl 0 rfl) ?_
      refine lv_aload_n hx hb d_Lg_records_5 rfl (lv_at hl 2 rfl) ?_
      refine nw_get (D := D) (ci := 3) (C := R_Lg) (T := T_Lg) (N := 7) hx hb hts in_Lg hown hK.k hP (i := 3) (by decide) tl_3 rfl 2 (by decide) (hts _ kf_Lg_22) rfl d_Lg_records_6 ?_
      refine lv_icmp_ge (tgt := 29) hx hb d_Lg_records_9 (by decide) (fun c9 => absurd c9 (fun z => absurd ((nI_leI (by omega) (by omega)).mp z) (by omega))) (fun c9 => ?_)
      refine lv_iload_n hx hb d_Lg_records_12 rfl (lv_at hl 1 rfl) ?_
      refine lv_aload_n hx hb d_Lg_records_13 rfl (lv_at hl 2 rfl) ?_
      refine lv_iload_n hx hb d_Lg_records_14 rfl (lv_at hl 0 rfl) ?_
      refine call_A (As := [.int (nI i)]) (rest := [.int (nI (sumR rc rw i))]) F hK (c_Lg_block l D cy ad i tp rw pt cn er rc re cg tn ln bg cp cb pn dn op w HL HR (by omega)) km_Lg_49 ki_Lg_block ks_Lg_block k0_Lg kc_Lg_block kd_Lg_block ⟨Nat.le_of_ble_eq_true rfl, Nat.le_of_ble_eq_true rfl⟩ (nw_recv hK.k hP (i := 3) (by decide) tl_3 rfl) (hP) (hI) hl.1 rfl (Nat.le_of_ble_eq_true rfl) d_Lg_records_15 ⟨(Nat.le_of_ble_eq_true rfl), (Nat.le_of_ble_eq_true rfl)⟩ hS (fun H1 locs1 hN hS => ?_)
      have hP := hN _ _ _ hP
      generalize H1 = H at hP hS ⊢
      refine nw_getN (D := D) (ci := 0) (C := R_Bk) (T := T_Bk) (N := 5) hx hb hts in_Bk hown hK.k hP (i := 10 + (rw i)) (PT_b (by omega)) (tl_b (by omega)) rfl 3 (by decide) (hK.nest 5 (by decide) rfl) rfl d_Lg_records_18 ?_
      refine lv_iadd hx hb d_Lg_records_21 ?_
      refine lv_eqi (nI_add _ _) ?_
      refine lv_istore_n (lv' := [(1, .int (nI (sumR rc rw (i + 1)))), (2, .int (nI i)), (0, .ref (ad 3))]) hx hb d_Lg_records_22 rfl hl (by decide) rfl (fun ls hl => ?_)
      refine lv_iinc (v := nI (i + 1)) (lv' := [(2, .int (nI (i + 1))), (1, .int (nI (sumR rc rw (i + 1)))), (0, .ref (ad 3))]) hx hb d_Lg_records_23 hl (k := 1) rfl (nI_inc _) (by decide) rfl (fun ls hl => ?_)
      refine lv_goto (tgt := 4) hx hb d_Lg_records_26 (by decide) ?_
      exact ih (i + 1) (by omega) _ _ _ hP hS (lv_sub hl [0, 1, 2] rfl)
  exact loop ln 0 (by omega) _ _ _ hP hS (lv_sub hl [0, 1, 2] rfl)
set_option maxRecDepth 100000 in
set_option maxHeartbeats 4000000 in
theorem c_Lg_overwritten (l : Launch) (D : va_G) (cy : Nat → ClassId) (ad : Nat → Nat) (tp rw pt cn er rc re : Nat → Nat) (cg : Nat → Nat → Nat) (tn ln bg cp cb pn : Nat) (dn op w : Bool)  : mtR l y_Lg_overwritten b_Lg_overwritten 3 (some .int) { frames := 0, cells := 0, slots := 0, locals := 0 } D cy [.ref (ad 3)] PT ad (tlC cy ad tp tn dn rw ln op bg w cp cb pt pn cn cg er rc re) (nI 0) := by
  intro sz
  refine nm_ofW (cc := b_Lg_overwritten) (maxL := 3) (ret := (some .int)) (own := R_Lg) (by decide) (Nat.le_of_ble_eq_true rfl) rfl ?_
  intro p e s m below meth c ls F hr hlk hnm hv hl
  obtain ⟨hx, hb, hml, hown, hts⟩ := id F
  obtain ⟨rfl, hP, hK, hI⟩ := hv
  have hD : nd (na PT ad s.heap.size) PT ad := nd_self hI
  have hS : va_S (fun _ => False) s.heap s.heap [] := va_S.rf
  have hl : lv_has ls 3 [(0, .ref (ad 3))] := hl
  refine lv_iconst (v := nI 0) hx hb d_Lg_overwritten_0 (by decide) ?_
  refine lv_istore_n (lv' := [(1, .int (nI 0)), (0, .ref (ad 3))]) hx hb d_Lg_overwritten_1 rfl hl (by decide) rfl (fun ls hl => ?_)
  refine lv_iconst (v := nI 0) hx hb d_Lg_overwritten_2 (by decide) ?_
  refine lv_istore_n (lv' := [(2, .int (nI 0)), (1, .int (nI 0)), (0, .ref (ad 3))]) hx hb d_Lg_overwritten_3 rfl hl (by decide) rfl (fun ls hl => ?_)
  have loop : ∀ (j i : Nat), i + j = 24 → ∀ (H : Heap) (locs : List Loc) (ls : Array Slot), nw D vcl PT ad (tlC cy ad tp tn dn rw ln op bg w cp cb pt pn cn cg er rc re) H → va_S (fun _ => False) s.heap H locs → lv_has ls 3 [(2, .int (nI i)), (1, .int (nI 0)), (0, .ref (ad 3))] → W p l e { frames := 0, cells := 0, slots := 0, locals := 0 } s m [.ref (ad 3)].toArray below meth c H locs 0 0 (MQ below (va_Qi (fun r' (_ : Unit) => r' = nI 0) (fun _ _ => True) (fun _ => False)) [.ref (ad 3)].toArray s 0 0 (fun _ => False)) (F0 m 4 ls []) := by
    intro j
    induction j with
    | zero =>
      intro i hi H locs ls hP hS hl
      obtain rfl : i = 24 := by omega
      refine lv_iload_n hx hb d_Lg_overwritten_4 rfl (lv_at hl 0 rfl) ?_
      refine lv_bipush (v := nI 24) hx hb d_Lg_overwritten_5 (by decide) ?_
      refine lv_icmp_ge (tgt := 28) hx hb d_Lg_overwritten_7 (by decide) (fun c7 => ?_) (fun c7 => absurd ((nI_leI (by omega) (by omega)).mpr (by omega)) c7)
      refine lv_iload_n hx hb d_Lg_overwritten_28 rfl (lv_at hl 1 rfl) ?_
      exact end_R F hr hlk rfl hS d_Lg_overwritten_29
    | succ j ih =>
      intro i hi H locs ls hP hS hl
      refine lv_iload_n hx hb d_Lg_overwritten_4 rfl (lv_at hl 0 rfl) ?_
      refine lv_bipush (v := nI 24) hx hb d_Lg_overwritten_5 (by decide) ?_
      refine lv_icmp_ge (tgt := 28) hx hb d_Lg_overwritten_7 (by decide) (fun c7 => absurd c7 (fun z => absurd ((nI_leI (by omega) (by omega)).mp z) (by omega))) (fun c7 => ?_)
      refine lv_iload_n hx hb d_Lg_overwritten_10 rfl (lv_at hl 1 rfl) ?_
      refine lv_aload_n hx hb d_Lg_overwritten_11 rfl (lv_at hl 2 rfl) ?_
      refine nw_get (D := D) (ci := 3) (C := R_Lg) (T := T_Lg) (N := 7) hx hb hts in_Lg hown hK.k hP (i := 3) (by decide) tl_3 rfl 0 (by decide) (hts _ kf_Lg_11) rfl d_Lg_overwritten_12 ?_
      refine lv_iload_n hx hb d_Lg_overwritten_15 rfl (lv_at hl 0 rfl) ?_
      refine nw_aald hx hb hK.k hP (i := 4) (by decide) tl_4 4 rfl (C := R_Bk) (vp_in_nI (by omega) (by omega)) (r := ad (10 + i)) (by rw [nI_clamp (by omega)]; exact if_pos (by omega)) d_Lg_overwritten_16 ?_
      refine nw_getN (D := D) (ci := 0) (C := R_Bk) (T := T_Bk) (N := 5) hx hb hts in_Bk hown hK.k hP (i := 10 + i) (PT_b (by omega)) (tl_b (by omega)) rfl 2 (by decide) (hK.nest 4 (by decide) rfl) rfl d_Lg_overwritten_17 ?_
      refine lv_iadd hx hb d_Lg_overwritten_20 ?_
      refine lv_eqi (nI_add _ _) ?_
      refine lv_istore_n (lv' := [(1, .int (nI 0)), (2, .int (nI i)), (0, .ref (ad 3))]) hx hb d_Lg_overwritten_21 rfl hl (by decide) rfl (fun ls hl => ?_)
      refine lv_iinc (v := nI (i + 1)) (lv' := [(2, .int (nI (i + 1))), (1, .int (nI 0)), (0, .ref (ad 3))]) hx hb d_Lg_overwritten_22 hl (k := 1) rfl (nI_inc _) (by decide) rfl (fun ls hl => ?_)
      refine lv_goto (tgt := 4) hx hb d_Lg_overwritten_25 (by decide) ?_
      exact ih (i + 1) (by omega) _ _ _ hP hS (lv_sub hl [0, 1, 2] rfl)
  exact loop 24 0 (by omega) _ _ _ hP hS (lv_sub hl [0, 1, 2] rfl)
set_option maxRecDepth 100000 in
set_option maxHeartbeats 4000000 in
theorem c_Lg_holds (l : Launch) (D : va_G) (cy : Nat → ClassId) (ad : Nat → Nat) (k : Nat) (tp rw pt cn er rc re : Nat → Nat) (cg : Nat → Nat → Nat) (tn ln bg cp cb pn : Nat) (dn op w : Bool) (HL : ln ≤ 24) (HR : ∀ i, i < ln → rw i < 24) (hk : k < 24) : mtR l y_Lg_holds b_Lg_holds 3 (some .boolean) { frames := 0, cells := 0, slots := 0, locals := 0 } D cy [.ref (ad 3), .int (nI k)] PT ad (tlC cy ad tp tn dn rw ln op bg w cp cb pt pn cn cg er rc re) (bI (heldB rw ln k)) := by
  intro sz
  refine nm_ofW (cc := b_Lg_holds) (maxL := 3) (ret := (some .boolean)) (own := R_Lg) (by decide) (Nat.le_of_ble_eq_true rfl) rfl ?_
  intro p e s m below meth c ls F hr hlk hnm hv hl
  obtain ⟨hx, hb, hml, hown, hts⟩ := id F
  obtain ⟨rfl, hP, hK, hI⟩ := hv
  have hD : nd (na PT ad s.heap.size) PT ad := nd_self hI
  have hS : va_S (fun _ => False) s.heap s.heap [] := va_S.rf
  have hl : lv_has ls 3 [(0, .ref (ad 3)), (1, .int (nI k))] := hl
  refine lv_iconst (v := nI 0) hx hb d_Lg_holds_0 (by decide) ?_
  refine lv_istore_n (lv' := [(2, .int (nI 0)), (0, .ref (ad 3)), (1, .int (nI k))]) hx hb d_Lg_holds_1 rfl hl (by decide) rfl (fun ls hl => ?_)
  have loop : ∀ (j i : Nat), i + j = ln → (∀ t, t < i → rw t ≠ k) → ∀ (H : Heap) (locs : List Loc) (ls : Array Slot), nw D vcl PT ad (tlC cy ad tp tn dn rw ln op bg w cp cb pt pn cn cg er rc re) H → va_S (fun _ => False) s.heap H locs → lv_has ls 3 [(2, .int (nI i)), (0, .ref (ad 3)), (1, .int (nI k))] → W p l e { frames := 0, cells := 0, slots := 0, locals := 0 } s m [.ref (ad 3), .int (nI k)].toArray below meth c H locs 0 0 (MQ below (va_Qi (fun r' (_ : Unit) => r' = bI (heldB rw ln k)) (fun _ _ => True) (fun _ => False)) [.ref (ad 3), .int (nI k)].toArray s 0 0 (fun _ => False)) (F0 m 2 ls []) := by
    intro j
    induction j with
    | zero =>
      intro i hi hno H locs ls hP hS hl
      obtain rfl : i = ln := by omega
      refine lv_iload_n hx hb d_Lg_holds_2 rfl (lv_at hl 0 rfl) ?_
      refine lv_aload_n hx hb d_Lg_holds_3 rfl (lv_at hl 1 rfl) ?_
      refine nw_get (D := D) (ci := 3) (C := R_Lg) (T := T_Lg) (N := 7) hx hb hts in_Lg hown hK.k hP (i := 3) (by decide) tl_3 rfl 2 (by decide) (hts _ kf_Lg_22) rfl d_Lg_holds_4 ?_
      refine lv_icmp_ge (tgt := 28) hx hb d_Lg_holds_7 (by decide) (fun c7 => ?_) (fun c7 => absurd ((nI_leI (by omega) (by omega)).mpr (by omega)) c7)
      refine lv_iconst (v := nI 0) hx hb d_Lg_holds_28 (by decide) ?_
      rw [show heldB rw i k = false from decide_eq_false (fun ⟨t, h1, h2⟩ => hno t h1 h2)]
      exact end_R F hr hlk rfl hS d_Lg_holds_29
    | succ j ih =>
      intro i hi hno H locs ls hP hS hl
      have hb0 := HR i (by omega)
      refine lv_iload_n hx hb d_Lg_holds_2 rfl (lv_at hl 0 rfl) ?_
      refine lv_aload_n hx hb d_Lg_holds_3 rfl (lv_at hl 1 rfl) ?_
      refine nw_get (D := D) (ci := 3) (C := R_Lg) (T := T_Lg) (N := 7) hx hb hts in_Lg hown hK.k hP (i := 3) (by decide) tl_3 rfl 2 (by decide) (hts _ kf_Lg_22) rfl d_Lg_holds_4 ?_
      refine lv_icmp_ge (tgt := 28) hx hb d_Lg_holds_7 (by decide) (fun c7 => absurd c7 (fun z => absurd ((nI_leI (by omega) (by omega)).mp z) (by omega))) (fun c7 => ?_)
      refine lv_aload_n hx hb d_Lg_holds_10 rfl (lv_at hl 1 rfl) ?_
      refine nw_get (D := D) (ci := 3) (C := R_Lg) (T := T_Lg) (N := 7) hx hb hts in_Lg hown hK.k hP (i := 3) (by decide) tl_3 rfl 1 (by decide) (hts _ kf_Lg_18) rfl d_Lg_holds_11 ?_
      refine lv_iload_n hx hb d_Lg_holds_14 rfl (lv_at hl 0 rfl) ?_
      refine nw_iald hx hb hK.k hP (i := 5) (by decide) tl_5 1 rfl (vp_in_nI (by omega) (by omega)) d_Lg_holds_15 ?_
      refine lv_eqi (y := nI (rw i)) (by rw [nI_clamp (by omega)]) ?_
      refine lv_iload_n hx hb d_Lg_holds_16 rfl (lv_at hl 2 rfl) ?_
      refine lv_icmp_ne (tgt := 22) hx hb d_Lg_holds_17 (by decide) (fun c17 => ?_) (fun c17 => ?_)
      · have c17 := mt (nI_eq (by omega) (by omega)).mpr c17
        refine lv_iinc (v := nI (i + 1)) (lv' := [(2, .int (nI (i + 1))), (0, .ref (ad 3)), (1, .int (nI k))]) hx hb d_Lg_holds_22 hl (k := 0) rfl (nI_inc _) (by decide) rfl (fun ls hl => ?_)
        refine lv_goto (tgt := 2) hx hb d_Lg_holds_25 (by decide) ?_
        exact ih (i + 1) (by omega) (fun t ht => by rcases (show t < i ∨ t = i by omega) with h | h; exact hno t h; rw [h]; exact c17) _ _ _ hP hS (lv_sub hl [0, 1, 2] rfl)
      · have c17 := (nI_eq (by omega) (by omega)).mp c17
        refine lv_iconst (v := nI 1) hx hb d_Lg_holds_20 (by decide) ?_
        rw [show heldB rw ln k = true from decide_eq_true ⟨i, by omega, c17⟩]
        exact end_R F hr hlk rfl hS d_Lg_holds_21
  exact loop ln 0 (by omega) (fun t ht => by omega) _ _ _ hP hS (lv_sub hl [0, 1, 2] rfl)
set_option maxRecDepth 100000 in
set_option maxHeartbeats 4000000 in
theorem c_Lg_leastErased (l : Launch) (D : va_G) (cy : Nat → ClassId) (ad : Nat → Nat) (tp rw pt cn er rc re : Nat → Nat) (cg : Nat → Nat → Nat) (tn ln bg cp cb pn : Nat) (dn op w : Bool) (HL : ln ≤ 24) (HR : ∀ i, i < ln → rw i < 24) (HE : ∀ b, b < 24 → er b < 2 ^ 31) : mtR l y_Lg_leastErased b_Lg_leastErased 3 (some .int) { frames := 1, cells := 0, slots := 0, locals := 22 } D cy [.ref (ad 3)] PT ad (tlC cy ad tp tn dn rw ln op bg w cp cb pt pn cn cg er rc re) (oI (lea er (heldB rw ln) 24)) := by
  intro sz
  refine nm_ofW (cc := b_Lg_leastErased) (maxL := 3) (ret := (some .int)) (own := R_Lg) (by decide) (Nat.le_of_ble_eq_true rfl) rfl ?_
  intro p e s m below meth c ls F hr hlk hnm hv hl
  obtain ⟨hx, hb, hml, hown, hts⟩ := id F
  obtain ⟨rfl, hP, hK, hI⟩ := hv
  have hD : nd (na PT ad s.heap.size) PT ad := nd_self hI
  have hS : va_S (fun _ => False) s.heap s.heap [] := va_S.rf
  have hl : lv_has ls 3 [(0, .ref (ad 3))] := hl
  refine lv_iconst (v := -1) hx hb d_Lg_leastErased_0 (by decide) ?_
  refine lv_istore_n (lv' := [(1, .int (-1)), (0, .ref (ad 3))]) hx hb d_Lg_leastErased_1 rfl hl (by decide) rfl (fun ls hl => ?_)
  refine lv_iconst (v := nI 0) hx hb d_Lg_leastErased_2 (by decide) ?_
  refine lv_istore_n (lv' := [(2, .int (nI 0)), (1, .int (-1)), (0, .ref (ad 3))]) hx hb d_Lg_leastErased_3 rfl hl (by decide) rfl (fun ls hl => ?_)
  have loop : ∀ (j i : Nat), i + j = 24 → ∀ (H : Heap) (locs : List Loc) (ls : Array Slot), nw D vcl PT ad (tlC cy ad tp tn dn rw ln op bg w cp cb pt pn cn cg er rc re) H → va_S (fun _ => False) s.heap H locs → lv_has ls 3 [(2, .int (nI i)), (1, .int (oI (lea er (heldB rw ln) i))), (0, .ref (ad 3))] → W p l e { frames := 1, cells := 0, slots := 0, locals := 22 } s m [.ref (ad 3)].toArray below meth c H locs 0 0 (MQ below (va_Qi (fun r' (_ : Unit) => r' = oI (lea er (heldB rw ln) 24)) (fun _ _ => True) (fun _ => False)) [.ref (ad 3)].toArray s 0 0 (fun _ => False)) (F0 m 4 ls []) := by
    intro j
    induction j with
    | zero =>
      intro i hi H locs ls hP hS hl
      obtain rfl : i = 24 := by omega
      refine lv_iload_n hx hb d_Lg_leastErased_4 rfl (lv_at hl 0 rfl) ?_
      refine lv_bipush (v := nI 24) hx hb d_Lg_leastErased_5 (by decide) ?_
      refine lv_icmp_ge (tgt := 51) hx hb d_Lg_leastErased_7 (by decide) (fun c7 => ?_) (fun c7 => absurd ((nI_leI (by omega) (by omega)).mpr (by omega)) c7)
      refine lv_iload_n hx hb d_Lg_leastErased_51 rfl (lv_at hl 1 rfl) ?_
      exact end_R F hr hlk rfl hS d_Lg_leastErased_52
    | succ j ih =>
      intro i hi H locs ls hP hS hl
      refine lv_iload_n hx hb d_Lg_leastErased_4 rfl (lv_at hl 0 rfl) ?_
      refine lv_bipush (v := nI 24) hx hb d_Lg_leastErased_5 (by decide) ?_
      refine lv_icmp_ge (tgt := 51) hx hb d_Lg_leastErased_7 (by decide) (fun c7 => absurd c7 (fun z => absurd ((nI_leI (by omega) (by omega)).mp z) (by omega))) (fun c7 => ?_)
      refine lv_aload_n hx hb d_Lg_leastErased_10 rfl (lv_at hl 2 rfl) ?_
      refine lv_iload_n hx hb d_Lg_leastErased_11 rfl (lv_at hl 0 rfl) ?_
      refine call_R (As := [.int (nI i)]) (rest := []) F hK (c_Lg_holds l D cy ad i tp rw pt cn er rc re cg tn ln bg cp cb pn dn op w HL HR (by omega)) km_Lg_81 ki_Lg_holds ks_Lg_holds k0_Lg kc_Lg_holds kd_Lg_holds ⟨Nat.le_of_ble_eq_true rfl, Nat.le_of_ble_eq_true rfl⟩ (nw_recv hK.k hP (i := 3) (by decide) tl_3 rfl) (hP) (hI) hl.1 rfl (Nat.le_of_ble_eq_true rfl) d_Lg_leastErased_12 ⟨(Nat.le_of_ble_eq_true rfl), (Nat.le_of_ble_eq_true rfl)⟩ hS (fun H1 locs1 hN hS => ?_)
      have hP := hN _ _ _ hP
      generalize H1 = H at hP hS ⊢
      refine lv_if_ne (tgt := 45) hx hb d_Lg_leastErased_15 (by decide) (fun c15 => ?_) (fun c15 => ?_)
      · have c15 := mt bI_eq0.mpr c15
        have c15 : heldB rw ln i = true := by simpa using c15
        have e1 : lea er (heldB rw ln) (i + 1) = lea er (heldB rw ln) i := by simp [lea, c15]
        refine lv_iinc (v := nI (i + 1)) (lv' := [(2, .int (nI (i + 1))), (1, .int (oI (lea er (heldB rw ln) i))), (0, .ref (ad 3))]) hx hb d_Lg_leastErased_45 hl (k := 0) rfl (nI_inc _) (by decide) rfl (fun ls hl => ?_)
        refine lv_goto (tgt := 4) hx hb d_Lg_leastErased_48 (by decide) ?_
        rw [← e1] at hl
        exact ih (i + 1) (by omega) _ _ _ hP hS (lv_sub hl [0, 1, 2] rfl)
      · have c15 := bI_eq0.mp c15
        cases hle : lea er (heldB rw ln) i with
        | none =>
          rw [hle] at hl
          have e1 : lea er (heldB rw ln) (i + 1) = some i := by simp [lea, c15, hle]
          refine lv_iload_n hx hb d_Lg_leastErased_18 rfl (lv_at hl 1 rfl) ?_
          refine lv_if_lt (tgt := 43) hx hb d_Lg_leastErased_19 (by decide) (fun c19 => ?_) (fun c19 => absurd (show oI none < 0 by decide) c19)
          refine lv_iload_n hx hb d_Lg_leastErased_43 rfl (lv_at hl 0 rfl) ?_
          refine lv_istore_n (lv' := [(1, .int (nI i)), (2, .int (nI i)), (0, .ref (ad 3))]) hx hb d_Lg_leastErased_44 rfl hl (by decide) rfl (fun ls hl => ?_)
          refine lv_iinc (v := nI (i + 1)) (lv' := [(2, .int (nI (i + 1))), (1, .int (nI i)), (0, .ref (ad 3))]) hx hb d_Lg_leastErased_45 hl (k := 1) rfl (nI_inc _) (by decide) rfl (fun ls hl => ?_)
          refine lv_goto (tgt := 4) hx hb d_Lg_leastErased_48 (by decide) ?_
          have hl : lv_has ls 3 [(2, .int (nI (i + 1))), (1, .int (oI (lea er (heldB rw ln) (i + 1)))), (0, .ref (ad 3))] := by rw [e1]; exact hl
          exact ih (i + 1) (by omega) _ _ _ hP hS (lv_sub hl [0, 1, 2] rfl)
        | some b =>
          have hb0 := lea_lt hle
          have he0 := HE b (by omega)
          have he1 := HE i (by omega)
          rw [hle] at hl
          have hl : lv_has ls 3 [(2, .int (nI i)), (1, .int (nI b)), (0, .ref (ad 3))] := hl
          refine lv_iload_n hx hb d_Lg_leastErased_18 rfl (lv_at hl 1 rfl) ?_
          refine lv_if_lt (tgt := 43) hx hb d_Lg_leastErased_19 (by decide) (fun c19 => absurd c19 (nI_pos (by omega))) (fun c19 => ?_)
          refine lv_aload_n hx hb d_Lg_leastErased_22 rfl (lv_at hl 2 rfl) ?_
          refine nw_get (D := D) (ci := 3) (C := R_Lg) (T := T_Lg) (N := 7) hx hb hts in_Lg hown hK.k hP (i := 3) (by decide) tl_3 rfl 0 (by decide) (hts _ kf_Lg_11) rfl d_Lg_leastErased_23 ?_
          refine lv_iload_n hx hb d_Lg_leastErased_26 rfl (lv_at hl 0 rfl) ?_
          refine nw_aald hx hb hK.k hP (i := 4) (by decide) tl_4 4 rfl (C := R_Bk) (vp_in_nI (by omega) (by omega)) (r := ad (10 + i)) (by rw [nI_clamp (by omega)]; exact if_pos (by omega)) d_Lg_leastErased_27 ?_
          refine nw_getN (D := D) (ci := 0) (C := R_Bk) (T := T_Bk) (N := 5) hx hb hts in_Bk hown hK.k hP (i := 10 + i) (PT_b (by omega)) (tl_b (by omega)) rfl 1 (by decide) (hK.nest 3 (by decide) rfl) rfl d_Lg_leastErased_28 ?_
          refine lv_aload_n hx hb d_Lg_leastErased_31 rfl (lv_at hl 2 rfl) ?_
          refine nw_get (D := D) (ci := 3) (C := R_Lg) (T := T_Lg) (N := 7) hx hb hts in_Lg hown hK.k hP (i := 3) (by decide) tl_3 rfl 0 (by decide) (hts _ kf_Lg_11) rfl d_Lg_leastErased_32 ?_
          refine lv_iload_n hx hb d_Lg_leastErased_35 rfl (lv_at hl 1 rfl) ?_
          refine nw_aald hx hb hK.k hP (i := 4) (by decide) tl_4 4 rfl (C := R_Bk) (vp_in_nI (by omega) (by omega)) (r := ad (10 + b)) (by rw [nI_clamp (by omega)]; exact if_pos (by omega)) d_Lg_leastErased_36 ?_
          refine nw_getN (D := D) (ci := 0) (C := R_Bk) (T := T_Bk) (N := 5) hx hb hts in_Bk hown hK.k hP (i := 10 + b) (PT_b (by omega)) (tl_b (by omega)) rfl 1 (by decide) (hK.nest 3 (by decide) rfl) rfl d_Lg_leastErased_37 ?_
          refine lv_icmp_ge (tgt := 45) hx hb d_Lg_leastErased_40 (by decide) (fun c40 => ?_) (fun c40 => ?_)
          · have c40 := (nI_leI (by omega) (by omega)).mp c40
            have e1 : lea er (heldB rw ln) (i + 1) = some b := by simp [lea, c15, hle]; omega
            refine lv_iinc (v := nI (i + 1)) (lv' := [(2, .int (nI (i + 1))), (1, .int (nI b)), (0, .ref (ad 3))]) hx hb d_Lg_leastErased_45 hl (k := 0) rfl (nI_inc _) (by decide) rfl (fun ls hl => ?_)
            refine lv_goto (tgt := 4) hx hb d_Lg_leastErased_48 (by decide) ?_
            have hl : lv_has ls 3 [(2, .int (nI (i + 1))), (1, .int (oI (lea er (heldB rw ln) (i + 1)))), (0, .ref (ad 3))] := by rw [e1]; exact hl
            exact ih (i + 1) (by omega) _ _ _ hP hS (lv_sub hl [0, 1, 2] rfl)
          · have c40 := mt (nI_leI (by omega) (by omega)).mpr c40
            have e1 : lea er (heldB rw ln) (i + 1) = some i := by simp [lea, c15, hle]; omega
            refine lv_iload_n hx hb d_Lg_leastErased_43 rfl (lv_at hl 0 rfl) ?_
            refine lv_istore_n (lv' := [(1, .int (nI i)), (2, .int (nI i)), (0, .ref (ad 3))]) hx hb d_Lg_leastErased_44 rfl hl (by decide) rfl (fun ls hl => ?_)
            refine lv_iinc (v := nI (i + 1)) (lv' := [(2, .int (nI (i + 1))), (1, .int (nI i)), (0, .ref (ad 3))]) hx hb d_Lg_leastErased_45 hl (k := 1) rfl (nI_inc _) (by decide) rfl (fun ls hl => ?_)
            refine lv_goto (tgt := 4) hx hb d_Lg_leastErased_48 (by decide) ?_
            have hl : lv_has ls 3 [(2, .int (nI (i + 1))), (1, .int (oI (lea er (heldB rw ln) (i + 1)))), (0, .ref (ad 3))] := by rw [e1]; exact hl
            exact ih (i + 1) (by omega) _ _ _ hP hS (lv_sub hl [0, 1, 2] rfl)
  exact loop 24 0 (by omega) _ _ _ hP hS (lv_sub hl [0, 1, 2] rfl)

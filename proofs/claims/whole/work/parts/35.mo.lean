/-! TornLogModel: what reads, part, fail -/
def cntL (lg : Nat → Bool) : Nat → Nat
  | 0 => 0
  | i + 1 => cntL lg i + (if lg i = true then 1 else 0)
theorem cntL_le (lg : Nat → Bool) : ∀ i, cntL lg i ≤ i
  | 0 => Nat.le_refl _
  | i + 1 => by
    have := cntL_le lg i
    unfold cntL
    split <;> omega
def sumL (lg : Nat → Bool) (co : Nat → Nat) : Nat → Nat
  | 0 => 0
  | i + 1 => sumL lg co i + (if lg i = true then co i else 0)
theorem sumL_le {lg : Nat → Bool} {co : Nat → Nat} (h : ∀ b, b < 24 → co b < 2 ^ 16) : ∀ i, i ≤ 24 → sumL lg co i ≤ i * 2 ^ 16
  | 0, _ => by simp [sumL]
  | i + 1, hi => by
    have h1 := sumL_le (lg := lg) h i (by omega)
    have h2 := h i (by omega)
    have h3 : (if lg i = true then co i else 0) ≤ co i := by
      cases lg i <;> simp
    show sumL lg co i + (if lg i = true then co i else 0) ≤ (i + 1) * 2 ^ 16
    omega
/-- how many of the blocks in the log were begun before b -/
def rnk (lg : Nat → Bool) (be : Nat → Nat) (b : Nat) : Nat := cntL (fun c => lg c && decide (be c < be b)) 24
/-- the first block from n - j on with that many before it -/
def bAt (lg : Nat → Bool) (be : Nat → Nat) (i : Nat) : Nat → Nat → Option Nat
  | 0, _ => none
  | j + 1, b => if lg b = true ∧ rnk lg be b = i then some b else bAt lg be i j (b + 1)
def cutF (w : Bool) (cp : Nat) : Bool := w && decide (cp = 0)
set_option maxRecDepth 100000 in
set_option maxHeartbeats 4000000 in
theorem c_Mo_thrown (l : Launch) (D : va_G) (cy : Nat → ClassId) (ad : Nat → Nat) (fl tn cp cb bn fo : Nat) (dn w : Bool) (tp we be co fi ro : Nat → Nat) (lg : Nat → Bool) (op : Option Nat)  : mtR l y_Mo_thrown b_Mo_thrown 1 (some .int) { frames := 0, cells := 0, slots := 0, locals := 0 } D cy [.ref (ad 0)] PM ad (mdC cy ad fl dn tp tn w cp cb we be lg co fi bn op ro fo) (nI fl) := by
  intro sz
  refine nm_ofW (cc := b_Mo_thrown) (maxL := 1) (ret := (some .int)) (own := R_Mo) (by decide) (Nat.le_of_ble_eq_true rfl) rfl ?_
  intro p e s m below meth c ls F hr hlk hnm hv hl
  obtain ⟨hx, hb, hml, hown, hts⟩ := id F
  obtain ⟨rfl, hP, hK, hI⟩ := hv
  have hD : nd (na PM ad s.heap.size) PM ad := nd_self hI
  have hS : va_S (fun _ => False) s.heap s.heap [] := va_S.rf
  have hl : lv_has ls 1 [(0, .ref (ad 0))] := hl
  refine lv_aload_n hx hb d_Mo_thrown_0 rfl (lv_at hl 0 rfl) ?_
  refine nw_get (D := D) (ci := 5) (C := R_Mo) (T := T_Mo) (N := 16) hx hb hts in_Mo hown hK.k hP (i := 0) (by decide) md_0 rfl 0 (by decide) (hts _ kf_Mo_38) rfl d_Mo_thrown_1 ?_
  exact end_R F hr hlk rfl hS d_Mo_thrown_4
set_option maxRecDepth 100000 in
set_option maxHeartbeats 4000000 in
theorem c_Mo_fail (l : Launch) (D : va_G) (cy : Nat → ClassId) (ad : Nat → Nat) (fl tn cp cb bn fo : Nat) (dn w : Bool) (tp we be co fi ro : Nat → Nat) (lg : Nat → Bool) (op : Option Nat) (k : Nat) : mtI l y_Mo_fail b_Mo_fail 2 (some .int) { frames := 0, cells := 0, slots := 0, locals := 0 } D cy [.ref (ad 0), .int (nI k)] PM ad (mdC cy ad fl dn tp tn w cp cb we be lg co fi bn op ro fo) (mdC cy ad k dn tp tn w cp cb we be lg co fi bn op ro fo) (nI 0) := by
  intro sz
  refine nm_ofW (cc := b_Mo_fail) (maxL := 2) (ret := (some .int)) (own := R_Mo) (by decide) (Nat.le_of_ble_eq_true rfl) rfl ?_
  intro p e s m below meth c ls F hr hlk hnm hv hl
  obtain ⟨hx, hb, hml, hown, hts⟩ := id F
  obtain ⟨rfl, hP, hK, hI⟩ := hv
  have hD : nd (na PM ad s.heap.size) PM ad := nd_self hI
  have hA : ∀ q, s.heap.size ≤ q → na PM ad s.heap.size q := fun q h => Or.inr h
  have hS : va_S (na PM ad s.heap.size) s.heap s.heap [] := va_S.rf
  have hl : lv_has ls 2 [(0, .ref (ad 0)), (1, .int (nI k))] := hl
  refine lv_aload_n hx hb d_Mo_fail_0 rfl (lv_at hl 0 rfl) ?_
  refine lv_iload_n hx hb d_Mo_fail_1 rfl (lv_at hl 1 rfl) ?_
  refine nw_put (D := D) (ci := 5) (C := R_Mo) (T := T_Mo) (N := 16) hx hb hts in_Mo ty_Mo tk_Mo nm_Mo hown hK.k hP hD hS (i := 0) (by decide) md_0 rfl 0 (by decide) (hts _ kf_Mo_38) rfl rfl rfl (Nat.le_of_ble_eq_true rfl) d_Mo_fail_2 (fun H locs hP hS hz hq => ?_)
  have hP : nw D vcl PM ad (mdC cy ad k dn tp tn w cp cb we be lg co fi bn op ro fo) H := nw_congr hP (mdu_fl)
  refine lv_iconst (v := nI 0) hx hb d_Mo_fail_5 (by decide) ?_
  exact end_I F hr hlk rfl hP hS d_Mo_fail_6
set_option maxRecDepth 100000 in
set_option maxHeartbeats 4000000 in
theorem c_Mo_part (l : Launch) (D : va_G) (cy : Nat → ClassId) (ad : Nat → Nat) (fl tn cp cb bn fo : Nat) (dn w : Bool) (tp we be co fi ro : Nat → Nat) (lg : Nat → Bool) (op : Option Nat) (z : Nat) (hz : 0 < z) (hz1 : z < 2 ^ 31) (hc : cb < 2 ^ 31) (hp : cp < 2 ^ 31) : mtI l y_Mo_part b_Mo_part 2 (some .int) { frames := 0, cells := 0, slots := 0, locals := 0 } D cy [.ref (ad 0), .int (nI z)] PM ad (mdC cy ad fl dn tp tn w cp cb we be lg co fi bn op ro fo) (mdC cy ad fl (dn || cutF w cp) tp (if cutF w cp = true then 0 else tn) (cutW w cp) (cutP w cp) cb we be lg co fi bn op ro fo) (nI (cutN w cp cb z)) := by
  intro sz
  refine nm_ofW (cc := b_Mo_part) (maxL := 2) (ret := (some .int)) (own := R_Mo) (by decide) (Nat.le_of_ble_eq_true rfl) rfl ?_
  intro p e s m below meth c ls F hr hlk hnm hv hl
  obtain ⟨hx, hb, hml, hown, hts⟩ := id F
  obtain ⟨rfl, hP, hK, hI⟩ := hv
  have hD : nd (na PM ad s.heap.size) PM ad := nd_self hI
  have hA : ∀ q, s.heap.size ≤ q → na PM ad s.heap.size q := fun q h => Or.inr h
  have hS : va_S (na PM ad s.heap.size) s.heap s.heap [] := va_S.rf
  have hl : lv_has ls 2 [(0, .ref (ad 0)), (1, .int (nI z))] := hl
  cases w with
  | false =>
    have e1 : (dn || cutF false cp) = dn := by simp [cutF]
    have e2 : (if cutF false cp = true then 0 else tn) = tn := by simp [cutF]
    have e3 : cutN false cp cb z = z := by simp [cutN]
    have e4 : cutW false cp = false := rfl
    have e5 : cutP false cp = cp := by simp [cutP]
    rw [e1, e2, e3, e4, e5]
    refine lv_aload_n hx hb d_Mo_part_0 rfl (lv_at hl 0 rfl) ?_
    refine nw_get (D := D) (ci := 5) (C := R_Mo) (T := T_Mo) (N := 16) hx hb hts in_Mo hown hK.k hP (i := 0) (by decide) md_0 rfl 4 (by decide) (hts _ kf_Mo_52) rfl d_Mo_part_1 ?_
    refine lv_if_ne (tgt := 9) hx hb d_Mo_part_4 (by decide) (fun c4 => absurd (show bI false = 0 by decide) c4) (fun c4 => ?_)
    refine lv_iload_n hx hb d_Mo_part_7 rfl (lv_at hl 1 rfl) ?_
    exact end_I F hr hlk rfl hP hS d_Mo_part_8
  | true =>
    refine lv_aload_n hx hb d_Mo_part_0 rfl (lv_at hl 0 rfl) ?_
    refine nw_get (D := D) (ci := 5) (C := R_Mo) (T := T_Mo) (N := 16) hx hb hts in_Mo hown hK.k hP (i := 0) (by decide) md_0 rfl 4 (by decide) (hts _ kf_Mo_52) rfl d_Mo_part_1 ?_
    refine lv_if_ne (tgt := 9) hx hb d_Mo_part_4 (by decide) (fun c4 => ?_) (fun c4 => absurd c4 (by decide))
    refine lv_aload_n hx hb d_Mo_part_9 rfl (lv_at hl 0 rfl) ?_
    refine nw_get (D := D) (ci := 5) (C := R_Mo) (T := T_Mo) (N := 16) hx hb hts in_Mo hown hK.k hP (i := 0) (by decide) md_0 rfl 5 (by decide) (hts _ kf_Mo_55) rfl d_Mo_part_10 ?_
    refine lv_if_le (tgt := 28) hx hb d_Mo_part_13 (by decide) (fun c13 => ?_) (fun c13 => ?_)
    · have c13 := (nI_zl (by omega)).mp c13
      obtain rfl : cp = 0 := c13
      refine lv_aload_n hx hb d_Mo_part_28 rfl (lv_at hl 0 rfl) ?_
      refine lv_iconst (v := bI false) hx hb d_Mo_part_29 (by decide) ?_
      refine nw_put (D := D) (ci := 5) (C := R_Mo) (T := T_Mo) (N := 16) hx hb hts in_Mo ty_Mo tk_Mo nm_Mo hown hK.k hP hD hS (i := 0) (by decide) md_0 rfl 4 (by decide) (hts _ kf_Mo_52) rfl (bI_nar _) (bI_fit _) (Nat.le_of_ble_eq_true rfl) d_Mo_part_30 (fun H locs hP hS hz hq => ?_)
      have hP : nw D vcl PM ad (mdC cy ad fl dn tp tn false 0 cb we be lg co fi bn op ro fo) H := nw_congr hP (mdu_w)
      refine lv_aload_n hx hb d_Mo_part_33 rfl (lv_at hl 0 rfl) ?_
      refine lv_iconst (v := bI true) hx hb d_Mo_part_34 (by decide) ?_
      refine nw_put (D := D) (ci := 5) (C := R_Mo) (T := T_Mo) (N := 16) hx hb hts in_Mo ty_Mo tk_Mo nm_Mo hown hK.k hP hD hS (i := 0) (by decide) md_0 rfl 1 (by decide) (hts _ kf_Mo_41) rfl (bI_nar _) (bI_fit _) (Nat.le_of_ble_eq_true rfl) d_Mo_part_35 (fun H locs hP hS hz hq => ?_)
      have hP : nw D vcl PM ad (mdC cy ad fl true tp tn false 0 cb we be lg co fi bn op ro fo) H := nw_congr hP (mdu_dn)
      refine lv_aload_n hx hb d_Mo_part_38 rfl (lv_at hl 0 rfl) ?_
      refine lv_iconst (v := nI 0) hx hb d_Mo_part_39 (by decide) ?_
      refine nw_put (D := D) (ci := 5) (C := R_Mo) (T := T_Mo) (N := 16) hx hb hts in_Mo ty_Mo tk_Mo nm_Mo hown hK.k hP hD hS (i := 0) (by decide) md_0 rfl 3 (by decide) (hts _ kf_Mo_49) rfl rfl rfl (Nat.le_of_ble_eq_true rfl) d_Mo_part_40 (fun H locs hP hS hz hq => ?_)
      have hP : nw D vcl PM ad (mdC cy ad fl true tp 0 false 0 cb we be lg co fi bn op ro fo) H := nw_congr hP (mdu_tn)
      refine lv_aload_n hx hb d_Mo_part_43 rfl (lv_at hl 0 rfl) ?_
      refine nw_get (D := D) (ci := 5) (C := R_Mo) (T := T_Mo) (N := 16) hx hb hts in_Mo hown hK.k hP (i := 0) (by decide) md_0 rfl 6 (by decide) (hts _ kf_Mo_58) rfl d_Mo_part_44 ?_
      refine lv_iload_n hx hb d_Mo_part_47 rfl (lv_at hl 1 rfl) ?_
      refine lv_iconst (v := nI 1) hx hb d_Mo_part_48 (by decide) ?_
      refine lv_isub hx hb d_Mo_part_49 ?_
      refine lv_eqi (pk_sub (by omega)) ?_
      have e1 : (dn || cutF true 0) = true := by simp [cutF]
      have e2 : (if cutF true 0 = true then 0 else tn) = 0 := by simp [cutF]
      have e4 : cutW true 0 = false := rfl
      have e5 : cutP true 0 = 0 := by simp [cutP]
      rw [e1, e2, e4, e5]
      refine lv_icmp_ge (tgt := 60) hx hb d_Mo_part_50 (by decide) (fun c50 => ?_) (fun c50 => ?_)
      · have c50 := (nI_leI (by omega) (by omega)).mp c50
        have e3 : cutN true 0 cb z = z - 1 := by simp [cutN]; omega
        rw [e3]
        refine lv_iload_n hx hb d_Mo_part_60 rfl (lv_at hl 1 rfl) ?_
        refine lv_iconst (v := nI 1) hx hb d_Mo_part_61 (by decide) ?_
        refine lv_isub hx hb d_Mo_part_62 ?_
        refine lv_eqi (pk_sub (by omega)) ?_
        exact end_I F hr hlk rfl hP hS d_Mo_part_63
      · have c50 := mt (nI_leI (by omega) (by omega)).mpr c50
        have e3 : cutN true 0 cb z = cb := by simp [cutN]; omega
        rw [e3]
        refine lv_aload_n hx hb d_Mo_part_53 rfl (lv_at hl 0 rfl) ?_
        refine nw_get (D := D) (ci := 5) (C := R_Mo) (T := T_Mo) (N := 16) hx hb hts in_Mo hown hK.k hP (i := 0) (by decide) md_0 rfl 6 (by decide) (hts _ kf_Mo_58) rfl d_Mo_part_54 ?_
        refine lv_goto (tgt := 63) hx hb d_Mo_part_57 (by decide) ?_
        exact end_I F hr hlk rfl hP hS d_Mo_part_63
    · have c13 := mt (nI_zl (by omega)).mpr c13
      refine lv_aload_n hx hb d_Mo_part_16 rfl (lv_at hl 0 rfl) ?_
      refine lv_dup hx hb d_Mo_part_17 rfl ?_
      refine nw_get (D := D) (ci := 5) (C := R_Mo) (T := T_Mo) (N := 16) hx hb hts in_Mo hown hK.k hP (i := 0) (by decide) md_0 rfl 5 (by decide) (hts _ kf_Mo_55) rfl d_Mo_part_18 ?_
      refine lv_iconst (v := nI 1) hx hb d_Mo_part_21 (by decide) ?_
      refine lv_isub hx hb d_Mo_part_22 ?_
      refine lv_eqi (pk_sub (by omega)) ?_
      refine nw_put (D := D) (ci := 5) (C := R_Mo) (T := T_Mo) (N := 16) hx hb hts in_Mo ty_Mo tk_Mo nm_Mo hown hK.k hP hD hS (i := 0) (by decide) md_0 rfl 5 (by decide) (hts _ kf_Mo_55) rfl rfl rfl (Nat.le_of_ble_eq_true rfl) d_Mo_part_23 (fun H locs hP hS hz hq => ?_)
      have hP : nw D vcl PM ad (mdC cy ad fl dn tp tn true (cp - 1) cb we be lg co fi bn op ro fo) H := nw_congr hP (mdu_cp)
      have e1 : (dn || cutF true cp) = dn := by simp [cutF, c13]
      have e2 : (if cutF true cp = true then 0 else tn) = tn := by simp [cutF, c13]
      have e3 : cutN true cp cb z = z := by simp [cutN, c13]
      have e4 : cutW true cp = true := by simp [cutW]; omega
      have e5 : cutP true cp = cp - 1 := by simp [cutP]
      rw [e1, e2, e3, e4, e5]
      refine lv_iload_n hx hb d_Mo_part_26 rfl (lv_at hl 1 rfl) ?_
      exact end_I F hr hlk rfl hP hS d_Mo_part_27
set_option maxRecDepth 100000 in
set_option maxHeartbeats 4000000 in
theorem c_Mo_blocks (l : Launch) (D : va_G) (cy : Nat → ClassId) (ad : Nat → Nat) (fl tn cp cb bn fo : Nat) (dn w : Bool) (tp we be co fi ro : Nat → Nat) (lg : Nat → Bool) (op : Option Nat)  : mtR l y_Mo_blocks b_Mo_blocks 3 (some .int) { frames := 0, cells := 0, slots := 0, locals := 0 } D cy [.ref (ad 0)] PM ad (mdC cy ad fl dn tp tn w cp cb we be lg co fi bn op ro fo) (nI (cntL lg 24)) := by
  intro sz
  refine nm_ofW (cc := b_Mo_blocks) (maxL := 3) (ret := (some .int)) (own := R_Mo) (by decide) (Nat.le_of_ble_eq_true rfl) rfl ?_
  intro p e s m below meth c ls F hr hlk hnm hv hl
  obtain ⟨hx, hb, hml, hown, hts⟩ := id F
  obtain ⟨rfl, hP, hK, hI⟩ := hv
  have hD : nd (na PM ad s.heap.size) PM ad := nd_self hI
  have hS : va_S (fun _ => False) s.heap s.heap [] := va_S.rf
  have hl : lv_has ls 3 [(0, .ref (ad 0))] := hl
  have hc := cntL_le lg
  refine lv_iconst (v := nI 0) hx hb d_Mo_blocks_0 (by decide) ?_
  refine lv_istore_n (lv' := [(1, .int (nI 0)), (0, .ref (ad 0))]) hx hb d_Mo_blocks_1 rfl hl (by decide) rfl (fun ls hl => ?_)
  refine lv_iconst (v := nI 0) hx hb d_Mo_blocks_2 (by decide) ?_
  refine lv_istore_n (lv' := [(2, .int (nI 0)), (1, .int (nI 0)), (0, .ref (ad 0))]) hx hb d_Mo_blocks_3 rfl hl (by decide) rfl (fun ls hl => ?_)
  have loop : ∀ (j i : Nat), i + j = 24 → ∀ (H : Heap) (locs : List Loc) (ls : Array Slot), nw D vcl PM ad (mdC cy ad fl dn tp tn w cp cb we be lg co fi bn op ro fo) H → va_S (fun _ => False) s.heap H locs → lv_has ls 3 [(2, .int (nI i)), (1, .int (nI (cntL lg i))), (0, .ref (ad 0))] → W p l e { frames := 0, cells := 0, slots := 0, locals := 0 } s m [.ref (ad 0)].toArray below meth c H locs 0 0 (MQ below (va_Qi (fun r' (_ : Unit) => r' = nI (cntL lg 24)) (fun _ _ => True) (fun _ => False)) [.ref (ad 0)].toArray s 0 0 (fun _ => False)) (F0 m 4 ls []) := by
    intro j
    induction j with
    | zero =>
      intro i hi H locs ls hP hS hl
      obtain rfl : i = 24 := by omega
      refine lv_iload_n hx hb d_Mo_blocks_4 rfl (lv_at hl 0 rfl) ?_
      refine lv_bipush (v := nI 24) hx hb d_Mo_blocks_5 (by decide) ?_
      refine lv_icmp_ge (tgt := 33) hx hb d_Mo_blocks_7 (by decide) (fun c7 => ?_) (fun c7 => absurd ((nI_leI (by omega) (by omega)).mpr (by omega)) c7)
      refine lv_iload_n hx hb d_Mo_blocks_33 rfl (lv_at hl 1 rfl) ?_
      exact end_R F hr hlk rfl hS d_Mo_blocks_34
    | succ j ih =>
      intro i hi H locs ls hP hS hl
      have hc0 := hc i
      refine lv_iload_n hx hb d_Mo_blocks_4 rfl (lv_at hl 0 rfl) ?_
      refine lv_bipush (v := nI 24) hx hb d_Mo_blocks_5 (by decide) ?_
      refine lv_icmp_ge (tgt := 33) hx hb d_Mo_blocks_7 (by decide) (fun c7 => absurd c7 (fun z => absurd ((nI_leI (by omega) (by omega)).mp z) (by omega))) (fun c7 => ?_)
      refine lv_iload_n hx hb d_Mo_blocks_10 rfl (lv_at hl 1 rfl) ?_
      refine lv_aload_n hx hb d_Mo_blocks_11 rfl (lv_at hl 2 rfl) ?_
      refine nw_get (D := D) (ci := 5) (C := R_Mo) (T := T_Mo) (N := 16) hx hb hts in_Mo hown hK.k hP (i := 0) (by decide) md_0 rfl 9 (by decide) (hts _ kf_Mo_20) rfl d_Mo_blocks_12 ?_
      refine lv_iload_n hx hb d_Mo_blocks_15 rfl (lv_at hl 0 rfl) ?_
      refine nw_zald hx hb hK.k hP (i := 4) (by decide) md_4 2 rfl (vp_in_nI (by omega) (by omega)) d_Mo_blocks_16 ?_
      refine lv_eqi (y := bI (lg i)) (by rw [nI_clamp (by omega)]) ?_
      refine lv_if_eq (tgt := 24) hx hb d_Mo_blocks_17 (by decide) (fun c17 => ?_) (fun c17 => ?_)
      · have c17 := bI_eq0.mp c17
        refine lv_iconst (v := nI 0) hx hb d_Mo_blocks_24 (by decide) ?_
        refine lv_iadd hx hb d_Mo_blocks_25 ?_
        refine lv_eqi (nI_add _ _) ?_
        refine lv_eqi (y := nI (cntL lg (i + 1))) (by simp [cntL, c17]) ?_
        refine lv_istore_n (lv' := [(1, .int (nI (cntL lg (i + 1)))), (2, .int (nI i)), (0, .ref (ad 0))]) hx hb d_Mo_blocks_26 rfl hl (by decide) rfl (fun ls hl => ?_)
        refine lv_iinc (v := nI (i + 1)) (lv' := [(2, .int (nI (i + 1))), (1, .int (nI (cntL lg (i + 1)))), (0, .ref (ad 0))]) hx hb d_Mo_blocks_27 hl (k := 1) rfl (nI_inc _) (by decide) rfl (fun ls hl => ?_)
        refine lv_goto (tgt := 4) hx hb d_Mo_blocks_30 (by decide) ?_
        exact ih (i + 1) (by omega) _ _ _ hP hS (lv_sub hl [0, 1, 2] rfl)
      · have c17 := mt bI_eq0.mpr c17
        refine lv_iconst (v := nI 1) hx hb d_Mo_blocks_20 (by decide) ?_
        refine lv_goto (tgt := 25) hx hb d_Mo_blocks_21 (by decide) ?_
        refine lv_iadd hx hb d_Mo_blocks_25 ?_
        refine lv_eqi (nI_add _ _) ?_
        refine lv_eqi (y := nI (cntL lg (i + 1))) (by simp [cntL, c17]) ?_
        refine lv_istore_n (lv' := [(1, .int (nI (cntL lg (i + 1)))), (2, .int (nI i)), (0, .ref (ad 0))]) hx hb d_Mo_blocks_26 rfl hl (by decide) rfl (fun ls hl => ?_)
        refine lv_iinc (v := nI (i + 1)) (lv' := [(2, .int (nI (i + 1))), (1, .int (nI (cntL lg (i + 1)))), (0, .ref (ad 0))]) hx hb d_Mo_blocks_27 hl (k := 1) rfl (nI_inc _) (by decide) rfl (fun ls hl => ?_)
        refine lv_goto (tgt := 4) hx hb d_Mo_blocks_30 (by decide) ?_
        exact ih (i + 1) (by omega) _ _ _ hP hS (lv_sub hl [0, 1, 2] rfl)
  exact loop 24 0 (by omega) _ _ _ hP hS (lv_sub hl [0, 1, 2] rfl)
set_option maxRecDepth 100000 in
set_option maxHeartbeats 4000000 in
theorem c_Mo_records (l : Launch) (D : va_G) (cy : Nat → ClassId) (ad : Nat → Nat) (fl tn cp cb bn fo : Nat) (dn w : Bool) (tp we be co fi ro : Nat → Nat) (lg : Nat → Bool) (op : Option Nat) (HQ : ∀ b, b < 24 → co b < 2 ^ 16) : mtR l y_Mo_records b_Mo_records 3 (some .int) { frames := 0, cells := 0, slots := 0, locals := 0 } D cy [.ref (ad 0)] PM ad (mdC cy ad fl dn tp tn w cp cb we be lg co fi bn op ro fo) (nI (sumL lg co 24)) := by
  intro sz
  refine nm_ofW (cc := b_Mo_records) (maxL := 3) (ret := (some .int)) (own := R_Mo) (by decide) (Nat.le_of_ble_eq_true rfl) rfl ?_
  intro p e s m below meth c ls F hr hlk hnm hv hl
  obtain ⟨hx, hb, hml, hown, hts⟩ := id F
  obtain ⟨rfl, hP, hK, hI⟩ := hv
  have hD : nd (na PM ad s.heap.size) PM ad := nd_self hI
  have hS : va_S (fun _ => False) s.heap s.heap [] := va_S.rf
  have hl : lv_has ls 3 [(0, .ref (ad 0))] := hl
  have hc := sumL_le (lg := lg) HQ
  refine lv_iconst (v := nI 0) hx hb d_Mo_records_0 (by decide) ?_
  refine lv_istore_n (lv' := [(1, .int (nI 0)), (0, .ref (ad 0))]) hx hb d_Mo_records_1 rfl hl (by decide) rfl (fun ls hl => ?_)
  refine lv_iconst (v := nI 0) hx hb d_Mo_records_2 (by decide) ?_
  refine lv_istore_n (lv' := [(2, .int (nI 0)), (1, .int (nI 0)), (0, .ref (ad 0))]) hx hb d_Mo_records_3 rfl hl (by decide) rfl (fun ls hl => ?_)
  have loop : ∀ (j i : Nat), i + j = 24 → ∀ (H : Heap) (locs : List Loc) (ls : Array Slot), nw D vcl PM ad (mdC cy ad fl dn tp tn w cp cb we be lg co fi bn op ro fo) H → va_S (fun _ => False) s.heap H locs → lv_has ls 3 [(2, .int (nI i)), (1, .int (nI (sumL lg co i))), (0, .ref (ad 0))] → W p l e { frames := 0, cells := 0, slots := 0, locals := 0 } s m [.ref (ad 0)].toArray below meth c H locs 0 0 (MQ below (va_Qi (fun r' (_ : Unit) => r' = nI (sumL lg co 24)) (fun _ _ => True) (fun _ => False)) [.ref (ad 0)].toArray s 0 0 (fun _ => False)) (F0 m 4 ls []) := by
    intro j
    induction j with
    | zero =>
      intro i hi H locs ls hP hS hl
      obtain rfl : i = 24 := by omega
      refine lv_iload_n hx hb d_Mo_records_4 rfl (lv_at hl 0 rfl) ?_
      refine lv_bipush (v := nI 24) hx hb d_Mo_records_5 (by decide) ?_
      refine lv_icmp_ge (tgt := 38) hx hb d_Mo_records_7 (by decide) (fun c7 => ?_) (fun c7 => absurd ((nI_leI (by omega) (by omega)).mpr (by omega)) c7)
      refine lv_iload_n hx hb d_Mo_records_38 rfl (lv_at hl 1 rfl) ?_
      exact end_R F hr hlk rfl hS d_Mo_records_39
    | succ j ih =>
      intro i hi H locs ls hP hS hl
      have hc0 := hc i (by omega)
      have hq0 := HQ i (by omega)
      refine lv_iload_n hx hb d_Mo_records_4 rfl (lv_at hl 0 rfl) ?_
      refine lv_bipush (v := nI 24) hx hb d_Mo_records_5 (by decide) ?_
      refine lv_icmp_ge (tgt := 38) hx hb d_Mo_records_7 (by decide) (fun c7 => absurd c7 (fun z => absurd ((nI_leI (by omega) (by omega)).mp z) (by omega))) (fun c7 => ?_)
      refine lv_iload_n hx hb d_Mo_records_10 rfl (lv_at hl 1 rfl) ?_
      refine lv_aload_n hx hb d_Mo_records_11 rfl (lv_at hl 2 rfl) ?_
      refine nw_get (D := D) (ci := 5) (C := R_Mo) (T := T_Mo) (N := 16) hx hb hts in_Mo hown hK.k hP (i := 0) (by decide) md_0 rfl 9 (by decide) (hts _ kf_Mo_20) rfl d_Mo_records_12 ?_
      refine lv_iload_n hx hb d_Mo_records_15 rfl (lv_at hl 0 rfl) ?_
      refine nw_zald hx hb hK.k hP (i := 4) (by decide) md_4 2 rfl (vp_in_nI (by omega) (by omega)) d_Mo_records_16 ?_
      refine lv_eqi (y := bI (lg i)) (by rw [nI_clamp (by omega)]) ?_
      refine lv_if_eq (tgt := 29) hx hb d_Mo_records_17 (by decide) (fun c17 => ?_) (fun c17 => ?_)
      · have c17 := bI_eq0.mp c17
        refine lv_iconst (v := nI 0) hx hb d_Mo_records_29 (by decide) ?_
        refine lv_iadd hx hb d_Mo_records_30 ?_
        refine lv_eqi (nI_add _ _) ?_
        refine lv_eqi (y := nI (sumL lg co (i + 1))) (by simp [sumL, c17]) ?_
        refine lv_istore_n (lv' := [(1, .int (nI (sumL lg co (i + 1)))), (2, .int (nI i)), (0, .ref (ad 0))]) hx hb d_Mo_records_31 rfl hl (by decide) rfl (fun ls hl => ?_)
        refine lv_iinc (v := nI (i + 1)) (lv' := [(2, .int (nI (i + 1))), (1, .int (nI (sumL lg co (i + 1)))), (0, .ref (ad 0))]) hx hb d_Mo_records_32 hl (k := 1) rfl (nI_inc _) (by decide) rfl (fun ls hl => ?_)
        refine lv_goto (tgt := 4) hx hb d_Mo_records_35 (by decide) ?_
        exact ih (i + 1) (by omega) _ _ _ hP hS (lv_sub hl [0, 1, 2] rfl)
      · have c17 := mt bI_eq0.mpr c17
        refine lv_aload_n hx hb d_Mo_records_20 rfl (lv_at hl 2 rfl) ?_
        refine nw_get (D := D) (ci := 5) (C := R_Mo) (T := T_Mo) (N := 16) hx hb hts in_Mo hown hK.k hP (i := 0) (by decide) md_0 rfl 10 (by decide) (hts _ kf_Mo_24) rfl d_Mo_records_21 ?_
        refine lv_iload_n hx hb d_Mo_records_24 rfl (lv_at hl 0 rfl) ?_
        refine nw_iald hx hb hK.k hP (i := 5) (by decide) md_5 1 rfl (vp_in_nI (by omega) (by omega)) d_Mo_records_25 ?_
        refine lv_eqi (y := nI (co i)) (by rw [nI_clamp (by omega)]) ?_
        refine lv_goto (tgt := 30) hx hb d_Mo_records_26 (by decide) ?_
        refine lv_iadd hx hb d_Mo_records_30 ?_
        refine lv_eqi (nI_add _ _) ?_
        refine lv_eqi (y := nI (sumL lg co (i + 1))) (by simp [sumL, c17]) ?_
        refine lv_istore_n (lv' := [(1, .int (nI (sumL lg co (i + 1)))), (2, .int (nI i)), (0, .ref (ad 0))]) hx hb d_Mo_records_31 rfl hl (by decide) rfl (fun ls hl => ?_)
        refine lv_iinc (v := nI (i + 1)) (lv' := [(2, .int (nI (i + 1))), (1, .int (nI (sumL lg co (i + 1)))), (0, .ref (ad 0))]) hx hb d_Mo_records_32 hl (k := 1) rfl (nI_inc _) (by decide) rfl (fun ls hl => ?_)
        refine lv_goto (tgt := 4) hx hb d_Mo_records_35 (by decide) ?_
        exact ih (i + 1) (by omega) _ _ _ hP hS (lv_sub hl [0, 1, 2] rfl)
  exact loop 24 0 (by omega) _ _ _ hP hS (lv_sub hl [0, 1, 2] rfl)
set_option maxRecDepth 100000 in
set_option maxHeartbeats 4000000 in
theorem c_Mo_blockAt (l : Launch) (D : va_G) (cy : Nat → ClassId) (ad : Nat → Nat) (fl tn cp cb bn fo : Nat) (dn w : Bool) (tp we be co fi ro : Nat → Nat) (lg : Nat → Bool) (op : Option Nat) (i : Nat) (hi31 : i < 2 ^ 31) (HB : ∀ b, b < 24 → be b < 2 ^ 31) : mtR l y_Mo_blockAt b_Mo_blockAt 5 (some .int) { frames := 0, cells := 0, slots := 0, locals := 0 } D cy [.ref (ad 0), .int (nI i)] PM ad (mdC cy ad fl dn tp tn w cp cb we be lg co fi bn op ro fo) (oI (bAt lg be i 24 0)) := by
  intro sz
  refine nm_ofW (cc := b_Mo_blockAt) (maxL := 5) (ret := (some .int)) (own := R_Mo) (by decide) (Nat.le_of_ble_eq_true rfl) rfl ?_
  intro p e s m below meth c ls F hr hlk hnm hv hl
  obtain ⟨hx, hb, hml, hown, hts⟩ := id F
  obtain ⟨rfl, hP, hK, hI⟩ := hv
  have hD : nd (na PM ad s.heap.size) PM ad := nd_self hI
  have hS : va_S (fun _ => False) s.heap s.heap [] := va_S.rf
  have hl : lv_has ls 5 [(0, .ref (ad 0)), (1, .int (nI i))] := hl
  refine lv_iconst (v := nI 0) hx hb d_Mo_blockAt_0 (by decide) ?_
  refine lv_istore_n (lv' := [(2, .int (nI 0)), (0, .ref (ad 0)), (1, .int (nI i))]) hx hb d_Mo_blockAt_1 rfl hl (by decide) rfl (fun ls hl => ?_)
  have loop : ∀ (j b : Nat), b + j = 24 → bAt lg be i 24 0 = bAt lg be i j b → ∀ (H : Heap) (locs : List Loc) (ls : Array Slot), nw D vcl PM ad (mdC cy ad fl dn tp tn w cp cb we be lg co fi bn op ro fo) H → va_S (fun _ => False) s.heap H locs → lv_has ls 5 [(2, .int (nI b)), (0, .ref (ad 0)), (1, .int (nI i))] → W p l e { frames := 0, cells := 0, slots := 0, locals := 0 } s m [.ref (ad 0), .int (nI i)].toArray below meth c H locs 0 0 (MQ below (va_Qi (fun r' (_ : Unit) => r' = oI (bAt lg be i 24 0)) (fun _ _ => True) (fun _ => False)) [.ref (ad 0), .int (nI i)].toArray s 0 0 (fun _ => False)) (F0 m 2 ls []) := by
    intro j
    induction j with
    | zero =>
      intro b hi he H locs ls hP hS hl
      obtain rfl : b = 24 := by omega
      refine lv_iload_n hx hb d_Mo_blockAt_2 rfl (lv_at hl 0 rfl) ?_
      refine lv_bipush (v := nI 24) hx hb d_Mo_blockAt_3 (by decide) ?_
      refine lv_icmp_ge (tgt := 85) hx hb d_Mo_blockAt_5 (by decide) (fun c5 => ?_) (fun c5 => absurd ((nI_leI (by omega) (by omega)).mpr (by omega)) c5)
      refine lv_iconst (v := -1) hx hb d_Mo_blockAt_85 (by decide) ?_
      rw [he]
      exact end_R F hr hlk rfl hS d_Mo_blockAt_86
    | succ j ih =>
      intro b hi he H locs ls hP hS hl
      have hb24 : b < 24 := by omega
      have hb0 := HB b hb24
      refine lv_iload_n hx hb d_Mo_blockAt_2 rfl (lv_at hl 0 rfl) ?_
      refine lv_bipush (v := nI 24) hx hb d_Mo_blockAt_3 (by decide) ?_
      refine lv_icmp_ge (tgt := 85) hx hb d_Mo_blockAt_5 (by decide) (fun c5 => absurd c5 (fun z => absurd ((nI_leI (by omega) (by omega)).mp z) (by omega))) (fun c5 => ?_)
      refine lv_aload_n hx hb d_Mo_blockAt_8 rfl (lv_at hl 1 rfl) ?_
      refine nw_get (D := D) (ci := 5) (C := R_Mo) (T := T_Mo) (N := 16) hx hb hts in_Mo hown hK.k hP (i := 0) (by decide) md_0 rfl 9 (by decide) (hts _ kf_Mo_20) rfl d_Mo_blockAt_9 ?_
      refine lv_iload_n hx hb d_Mo_blockAt_12 rfl (lv_at hl 0 rfl) ?_
      refine nw_zald hx hb hK.k hP (i := 4) (by decide) md_4 2 rfl (vp_in_nI (by omega) (by omega)) d_Mo_blockAt_13 ?_
      refine lv_eqi (y := bI (lg b)) (by rw [nI_clamp (by omega)]) ?_
      refine lv_if_ne (tgt := 20) hx hb d_Mo_blockAt_14 (by decide) (fun c14 => ?_) (fun c14 => ?_)
      · have c14 := mt bI_eq0.mpr c14
        have c14 : lg b = true := by simpa using c14
        refine lv_iconst (v := nI 0) hx hb d_Mo_blockAt_20 (by decide) ?_
        refine lv_istore_n (lv' := [(3, .int (nI 0)), (2, .int (nI b)), (0, .ref (ad 0)), (1, .int (nI i))]) hx hb d_Mo_blockAt_21 rfl hl (by decide) rfl (fun ls hl => ?_)
        refine lv_iconst (v := nI 0) hx hb d_Mo_blockAt_22 (by decide) ?_
        refine lv_istore (lv' := [(4, .int (nI 0)), (3, .int (nI 0)), (2, .int (nI b)), (0, .ref (ad 0)), (1, .int (nI i))]) hx hb d_Mo_blockAt_23 hl (by decide) rfl (fun ls hl => ?_)
        have inner : ∀ (u t : Nat), t + u = 24 → ∀ (H : Heap) (locs : List Loc) (ls : Array Slot), nw D vcl PM ad (mdC cy ad fl dn tp tn w cp cb we be lg co fi bn op ro fo) H → va_S (fun _ => False) s.heap H locs → lv_has ls 5 [(4, .int (nI t)), (3, .int (nI (cntL (fun c => lg c && decide (be c < be b)) t))), (2, .int (nI b)), (0, .ref (ad 0)), (1, .int (nI i))] → W p l e { frames := 0, cells := 0, slots := 0, locals := 0 } s m [.ref (ad 0), .int (nI i)].toArray below meth c H locs 0 0 (MQ below (va_Qi (fun r' (_ : Unit) => r' = oI (bAt lg be i 24 0)) (fun _ _ => True) (fun _ => False)) [.ref (ad 0), .int (nI i)].toArray s 0 0 (fun _ => False)) (F0 m 25 ls []) := by
          intro u
          induction u with
          | zero =>
            intro t ht H locs ls hP hS hl
            obtain rfl : t = 24 := by omega
            have hr0 := cntL_le (fun c => lg c && decide (be c < be b)) 24
            refine lv_iload hx hb d_Mo_blockAt_25 (lv_at hl 0 rfl) ?_
            refine lv_bipush (v := nI 24) hx hb d_Mo_blockAt_27 (by decide) ?_
            refine lv_icmp_ge (tgt := 72) hx hb d_Mo_blockAt_29 (by decide) (fun c29 => ?_) (fun c29 => absurd ((nI_leI (by omega) (by omega)).mpr (by omega)) c29)
            refine lv_iload_n hx hb d_Mo_blockAt_72 rfl (lv_at hl 1 rfl) ?_
            refine lv_iload_n hx hb d_Mo_blockAt_73 rfl (lv_at hl 4 rfl) ?_
            refine lv_icmp_ne (tgt := 79) hx hb d_Mo_blockAt_74 (by decide) (fun c74 => ?_) (fun c74 => ?_)
            · have c74 := mt (nI_eq (by omega) (by omega)).mpr c74
              have hne : ¬ rnk lg be b = i := c74
              refine lv_iinc (v := nI (b + 1)) (lv' := [(2, .int (nI (b + 1))), (4, .int (nI 24)), (3, .int (nI (cntL (fun c => lg c && decide (be c < be b)) 24))), (0, .ref (ad 0)), (1, .int (nI i))]) hx hb d_Mo_blockAt_79 hl (k := 2) rfl (nI_inc _) (by decide) rfl (fun ls hl => ?_)
              refine lv_goto (tgt := 2) hx hb d_Mo_blockAt_82 (by decide) ?_
              exact ih (b + 1) (by omega) (he.trans (by simp only [bAt, c14, true_and, if_neg hne])) _ _ _ hP hS (lv_sub hl [0, 3, 4] rfl)
            · have c74 := (nI_eq (by omega) (by omega)).mp c74
              have heq : rnk lg be b = i := c74
              refine lv_iload_n hx hb d_Mo_blockAt_77 rfl (lv_at hl 2 rfl) ?_
              rw [he, show bAt lg be i (j + 1) b = some b by simp only [bAt, c14, true_and, if_pos heq]]
              exact end_R F hr hlk rfl hS d_Mo_blockAt_78
          | succ u ihu =>
            intro t ht H locs ls hP hS hl
            have hr0 := cntL_le (fun c => lg c && decide (be c < be b)) t
            have ht0 := HB t (by omega)
            refine lv_iload hx hb d_Mo_blockAt_25 (lv_at hl 0 rfl) ?_
            refine lv_bipush (v := nI 24) hx hb d_Mo_blockAt_27 (by decide) ?_
            refine lv_icmp_ge (tgt := 72) hx hb d_Mo_blockAt_29 (by decide) (fun c29 => absurd c29 (fun z => absurd ((nI_leI (by omega) (by omega)).mp z) (by omega))) (fun c29 => ?_)
            refine lv_iload_n hx hb d_Mo_blockAt_32 rfl (lv_at hl 1 rfl) ?_
            refine lv_aload_n hx hb d_Mo_blockAt_33 rfl (lv_at hl 3 rfl) ?_
            refine nw_get (D := D) (ci := 5) (C := R_Mo) (T := T_Mo) (N := 16) hx hb hts in_Mo hown hK.k hP (i := 0) (by decide) md_0 rfl 9 (by decide) (hts _ kf_Mo_20) rfl d_Mo_blockAt_34 ?_
            refine lv_iload hx hb d_Mo_blockAt_37 (lv_at hl 0 rfl) ?_
            refine nw_zald hx hb hK.k hP (i := 4) (by decide) md_4 2 rfl (vp_in_nI (by omega) (by omega)) d_Mo_blockAt_39 ?_
            refine lv_eqi (y := bI (lg t)) (by rw [nI_clamp (by omega)]) ?_
            refine lv_if_eq (tgt := 63) hx hb d_Mo_blockAt_40 (by decide) (fun c40 => ?_) (fun c40 => ?_)
            · have c40 := bI_eq0.mp c40
              refine lv_iconst (v := nI 0) hx hb d_Mo_blockAt_63 (by decide) ?_
              refine lv_iadd hx hb d_Mo_blockAt_64 ?_
              refine lv_eqi (nI_add _ _) ?_
              refine lv_eqi (y := nI (cntL (fun c => lg c && decide (be c < be b)) (t + 1))) (by simp [cntL, c40]) ?_
              refine lv_istore_n (lv' := [(3, .int (nI (cntL (fun c => lg c && decide (be c < be b)) (t + 1)))), (4, .int (nI t)), (2, .int (nI b)), (0, .ref (ad 0)), (1, .int (nI i))]) hx hb d_Mo_blockAt_65 rfl hl (by decide) rfl (fun ls hl => ?_)
              refine lv_iinc (v := nI (t + 1)) (lv' := [(4, .int (nI (t + 1))), (3, .int (nI (cntL (fun c => lg c && decide (be c < be b)) (t + 1)))), (2, .int (nI b)), (0, .ref (ad 0)), (1, .int (nI i))]) hx hb d_Mo_blockAt_66 hl (k := 1) rfl (nI_inc _) (by decide) rfl (fun ls hl => ?_)
              refine lv_goto (tgt := 25) hx hb d_Mo_blockAt_69 (by decide) ?_
              exact ihu (t + 1) (by omega) _ _ _ hP hS (lv_sub hl [0, 1, 2, 3, 4] rfl)
            · have c40 := mt bI_eq0.mpr c40
              have c40 : lg t = true := by simpa using c40
              refine lv_aload_n hx hb d_Mo_blockAt_43 rfl (lv_at hl 3 rfl) ?_
              refine nw_get (D := D) (ci := 5) (C := R_Mo) (T := T_Mo) (N := 16) hx hb hts in_Mo hown hK.k hP (i := 0) (by decide) md_0 rfl 8 (by decide) (hts _ kf_Mo_17) rfl d_Mo_blockAt_44 ?_
              refine lv_iload hx hb d_Mo_blockAt_47 (lv_at hl 0 rfl) ?_
              refine nw_iald hx hb hK.k hP (i := 3) (by decide) md_3 1 rfl (vp_in_nI (by omega) (by omega)) d_Mo_blockAt_49 ?_
              refine lv_eqi (y := nI (be t)) (by rw [nI_clamp (by omega)]) ?_
              refine lv_aload_n hx hb d_Mo_blockAt_50 rfl (lv_at hl 3 rfl) ?_
              refine nw_get (D := D) (ci := 5) (C := R_Mo) (T := T_Mo) (N := 16) hx hb hts in_Mo hown hK.k hP (i := 0) (by decide) md_0 rfl 8 (by decide) (hts _ kf_Mo_17) rfl d_Mo_blockAt_51 ?_
              refine lv_iload_n hx hb d_Mo_blockAt_54 rfl (lv_at hl 2 rfl) ?_
              refine nw_iald hx hb hK.k hP (i := 3) (by decide) md_3 1 rfl (vp_in_nI (by omega) (by omega)) d_Mo_blockAt_55 ?_
              refine lv_eqi (y := nI (be b)) (by rw [nI_clamp (by omega)]) ?_
              refine lv_icmp_ge (tgt := 63) hx hb d_Mo_blockAt_56 (by decide) (fun c56 => ?_) (fun c56 => ?_)
              · have c56 := (nI_leI (by omega) (by omega)).mp c56
                refine lv_iconst (v := nI 0) hx hb d_Mo_blockAt_63 (by decide) ?_
                refine lv_iadd hx hb d_Mo_blockAt_64 ?_
                refine lv_eqi (nI_add _ _) ?_
                refine lv_eqi (y := nI (cntL (fun c => lg c && decide (be c < be b)) (t + 1))) (by simp [cntL, c40, show ¬ be t < be b by omega]) ?_
                refine lv_istore_n (lv' := [(3, .int (nI (cntL (fun c => lg c && decide (be c < be b)) (t + 1)))), (4, .int (nI t)), (2, .int (nI b)), (0, .ref (ad 0)), (1, .int (nI i))]) hx hb d_Mo_blockAt_65 rfl hl (by decide) rfl (fun ls hl => ?_)
                refine lv_iinc (v := nI (t + 1)) (lv' := [(4, .int (nI (t + 1))), (3, .int (nI (cntL (fun c => lg c && decide (be c < be b)) (t + 1)))), (2, .int (nI b)), (0, .ref (ad 0)), (1, .int (nI i))]) hx hb d_Mo_blockAt_66 hl (k := 1) rfl (nI_inc _) (by decide) rfl (fun ls hl => ?_)
                refine lv_goto (tgt := 25) hx hb d_Mo_blockAt_69 (by decide) ?_
                exact ihu (t + 1) (by omega) _ _ _ hP hS (lv_sub hl [0, 1, 2, 3, 4] rfl)
              · have c56 := mt (nI_leI (by omega) (by omega)).mpr c56
                refine lv_iconst (v := nI 1) hx hb d_Mo_blockAt_59 (by decide) ?_
                refine lv_goto (tgt := 64) hx hb d_Mo_blockAt_60 (by decide) ?_
                refine lv_iadd hx hb d_Mo_blockAt_64 ?_
                refine lv_eqi (nI_add _ _) ?_
                refine lv_eqi (y := nI (cntL (fun c => lg c && decide (be c < be b)) (t + 1))) (by simp [cntL, c40, show be t < be b by omega]) ?_
                refine lv_istore_n (lv' := [(3, .int (nI (cntL (fun c => lg c && decide (be c < be b)) (t + 1)))), (4, .int (nI t)), (2, .int (nI b)), (0, .ref (ad 0)), (1, .int (nI i))]) hx hb d_Mo_blockAt_65 rfl hl (by decide) rfl (fun ls hl => ?_)
                refine lv_iinc (v := nI (t + 1)) (lv' := [(4, .int (nI (t + 1))), (3, .int (nI (cntL (fun c => lg c && decide (be c < be b)) (t + 1)))), (2, .int (nI b)), (0, .ref (ad 0)), (1, .int (nI i))]) hx hb d_Mo_blockAt_66 hl (k := 1) rfl (nI_inc _) (by decide) rfl (fun ls hl => ?_)
                refine lv_goto (tgt := 25) hx hb d_Mo_blockAt_69 (by decide) ?_
                exact ihu (t + 1) (by omega) _ _ _ hP hS (lv_sub hl [0, 1, 2, 3, 4] rfl)
        exact inner 24 0 (by omega) _ _ _ hP hS (lv_sub hl [0, 1, 2, 3, 4] rfl)
      · have c14 := bI_eq0.mp c14
        have c14 : lg b = false := by simpa using c14
        refine lv_goto (tgt := 79) hx hb d_Mo_blockAt_17 (by decide) ?_
        refine lv_iinc (v := nI (b + 1)) (lv' := [(2, .int (nI (b + 1))), (0, .ref (ad 0)), (1, .int (nI i))]) hx hb d_Mo_blockAt_79 hl (k := 0) rfl (nI_inc _) (by decide) rfl (fun ls hl => ?_)
        refine lv_goto (tgt := 2) hx hb d_Mo_blockAt_82 (by decide) ?_
        exact ih (b + 1) (by omega) (he.trans (by simp [bAt, c14])) _ _ _ hP hS (lv_sub hl [0, 1, 2] rfl)
  exact loop 24 0 (by omega) rfl _ _ _ hP hS (lv_sub hl [0, 1, 2] rfl)
set_option maxRecDepth 100000 in
set_option maxHeartbeats 4000000 in
theorem c_Mo_number (l : Launch) (D : va_G) (cy : Nat → ClassId) (ad : Nat → Nat) (fl tn cp cb bn fo : Nat) (dn w : Bool) (tp we be co fi ro : Nat → Nat) (lg : Nat → Bool) (op : Option Nat) (a n : Nat) (ha : a + n ≤ 48960) (hn : n ≤ 4) (HO : ∀ j, j < 48960 → ro j < 256) : mtR l y_Mo_number b_Mo_number 5 (some .int) { frames := 0, cells := 0, slots := 0, locals := 0 } D cy [.ref (ad 0), .int (nI a), .int (nI n)] PM ad (mdC cy ad fl dn tp tn w cp cb we be lg co fi bn op ro fo) (nI (num ro a n)) := by
  intro sz
  refine nm_ofW (cc := b_Mo_number) (maxL := 5) (ret := (some .int)) (own := R_Mo) (by decide) (Nat.le_of_ble_eq_true rfl) rfl ?_
  intro p e s m below meth c ls F hr hlk hnm hv hl
  obtain ⟨hx, hb, hml, hown, hts⟩ := id F
  obtain ⟨rfl, hP, hK, hI⟩ := hv
  have hD : nd (na PM ad s.heap.size) PM ad := nd_self hI
  have hS : va_S (fun _ => False) s.heap s.heap [] := va_S.rf
  have hl : lv_has ls 5 [(0, .ref (ad 0)), (1, .int (nI a)), (2, .int (nI n))] := hl
  refine lv_iconst (v := nI 0) hx hb d_Mo_number_0 (by decide) ?_
  refine lv_istore_n (lv' := [(3, .int (nI 0)), (0, .ref (ad 0)), (1, .int (nI a)), (2, .int (nI n))]) hx hb d_Mo_number_1 rfl hl (by decide) rfl (fun ls hl => ?_)
  refine lv_iconst (v := nI 0) hx hb d_Mo_number_2 (by decide) ?_
  refine lv_istore (lv' := [(4, .int (nI 0)), (3, .int (nI 0)), (0, .ref (ad 0)), (1, .int (nI a)), (2, .int (nI n))]) hx hb d_Mo_number_3 hl (by decide) rfl (fun ls hl => ?_)
  have loop : ∀ (j i : Nat), i + j = n → ∀ (H : Heap) (locs : List Loc) (ls : Array Slot), nw D vcl PM ad (mdC cy ad fl dn tp tn w cp cb we be lg co fi bn op ro fo) H → va_S (fun _ => False) s.heap H locs → lv_has ls 5 [(4, .int (nI i)), (3, .int (nI (num ro a i))), (0, .ref (ad 0)), (1, .int (nI a)), (2, .int (nI n))] → W p l e { frames := 0, cells := 0, slots := 0, locals := 0 } s m [.ref (ad 0), .int (nI a), .int (nI n)].toArray below meth c H locs 0 0 (MQ below (va_Qi (fun r' (_ : Unit) => r' = nI (num ro a n)) (fun _ _ => True) (fun _ => False)) [.ref (ad 0), .int (nI a), .int (nI n)].toArray s 0 0 (fun _ => False)) (F0 m 5 ls []) := by
    intro j
    induction j with
    | zero =>
      intro i hi H locs ls hP hS hl
      obtain rfl : i = n := by omega
      refine lv_iload hx hb d_Mo_number_5 (lv_at hl 0 rfl) ?_
      refine lv_iload_n hx hb d_Mo_number_7 rfl (lv_at hl 4 rfl) ?_
      refine lv_icmp_ge (tgt := 37) hx hb d_Mo_number_8 (by decide) (fun c8 => ?_) (fun c8 => absurd ((nI_leI (by omega) (by omega)).mpr (by omega)) c8)
      refine lv_iload_n hx hb d_Mo_number_37 rfl (lv_at hl 1 rfl) ?_
      exact end_R F hr hlk rfl hS d_Mo_number_38
    | succ j ih =>
      intro i hi H locs ls hP hS hl
      have h0 := HO (a + i) (by omega)
      refine lv_iload hx hb d_Mo_number_5 (lv_at hl 0 rfl) ?_
      refine lv_iload_n hx hb d_Mo_number_7 rfl (lv_at hl 4 rfl) ?_
      refine lv_icmp_ge (tgt := 37) hx hb d_Mo_number_8 (by decide) (fun c8 => absurd c8 (fun z => absurd ((nI_leI (by omega) (by omega)).mp z) (by omega))) (fun c8 => ?_)
      refine lv_iload_n hx hb d_Mo_number_11 rfl (lv_at hl 1 rfl) ?_
      refine lv_sipush (v := nI 256) hx hb d_Mo_number_12 (by decide) ?_
      refine lv_imul hx hb d_Mo_number_15 ?_
      refine lv_eqi (pk_mul _ _) ?_
      refine lv_aload_n hx hb d_Mo_number_16 rfl (lv_at hl 2 rfl) ?_
      refine nw_get (D := D) (ci := 5) (C := R_Mo) (T := T_Mo) (N := 16) hx hb hts in_Mo hown hK.k hP (i := 0) (by decide) md_0 rfl 14 (by decide) (hts _ kf_Mo_35) rfl d_Mo_number_17 ?_
      refine lv_iload_n hx hb d_Mo_number_20 rfl (lv_at hl 3 rfl) ?_
      refine lv_iload hx hb d_Mo_number_21 (lv_at hl 0 rfl) ?_
      refine lv_iadd hx hb d_Mo_number_23 ?_
      refine lv_eqi (nI_add _ _) ?_
      refine nw_bald hx hb hK.k hP (i := 7) (by decide) md_7 0 rfl (vp_in_nI (by omega) (by omega)) d_Mo_number_24 ?_
      refine lv_eqi (y := sb_b (ro (a + i))) (by rw [nI_clamp (by omega)]) ?_
      refine lv_sipush (v := nI 255) hx hb d_Mo_number_25 (by decide) ?_
      refine lv_iand hx hb d_Mo_number_28 ?_
      refine lv_eqi (y := nI (ro (a + i))) (sb_and h0) ?_
      refine lv_iadd hx hb d_Mo_number_29 ?_
      refine lv_eqi (nI_add _ _) ?_
      refine lv_eqi (y := nI (num ro a (i + 1))) rfl ?_
      refine lv_istore_n (lv' := [(3, .int (nI (num ro a (i + 1)))), (4, .int (nI i)), (0, .ref (ad 0)), (1, .int (nI a)), (2, .int (nI n))]) hx hb d_Mo_number_30 rfl hl (by decide) rfl (fun ls hl => ?_)
      refine lv_iinc (v := nI (i + 1)) (lv' := [(4, .int (nI (i + 1))), (3, .int (nI (num ro a (i + 1)))), (0, .ref (ad 0)), (1, .int (nI a)), (2, .int (nI n))]) hx hb d_Mo_number_31 hl (k := 1) rfl (nI_inc _) (by decide) rfl (fun ls hl => ?_)
      refine lv_goto (tgt := 5) hx hb d_Mo_number_34 (by decide) ?_
      exact ih (i + 1) (by omega) _ _ _ hP hS (lv_sub hl [0, 1, 2, 3, 4] rfl)
  exact loop n 0 (by omega) _ _ _ hP hS (lv_sub hl [0, 1, 2, 3, 4] rfl)
set_option maxRecDepth 100000 in
set_option maxHeartbeats 4000000 in
theorem c_Mo_sizeAt (l : Launch) (D : va_G) (cy : Nat → ClassId) (ad : Nat → Nat) (fl tn cp cb bn fo : Nat) (dn w : Bool) (tp we be co fi ro : Nat → Nat) (lg : Nat → Bool) (op : Option Nat) (a : Nat) (ha : a + 4 ≤ 48960) (HO : ∀ j, j < 48960 → ro j < 256) : mtR l y_Mo_sizeAt b_Mo_sizeAt 2 (some .int) { frames := 1, cells := 0, slots := 0, locals := 24 } D cy [.ref (ad 0), .int (nI a)] PM ad (mdC cy ad fl dn tp tn w cp cb we be lg co fi bn op ro fo) (nI (ro (a + 1) + num ro (a + 2) 2)) := by
  intro sz
  refine nm_ofW (cc := b_Mo_sizeAt) (maxL := 2) (ret := (some .int)) (own := R_Mo) (by decide) (Nat.le_of_ble_eq_true rfl) rfl ?_
  intro p e s m below meth c ls F hr hlk hnm hv hl
  obtain ⟨hx, hb, hml, hown, hts⟩ := id F
  obtain ⟨rfl, hP, hK, hI⟩ := hv
  have hD : nd (na PM ad s.heap.size) PM ad := nd_self hI
  have hS : va_S (fun _ => False) s.heap s.heap [] := va_S.rf
  have hl : lv_has ls 2 [(0, .ref (ad 0)), (1, .int (nI a))] := hl
  have h0 := HO (a + 1) (by omega)
  refine lv_aload_n hx hb d_Mo_sizeAt_0 rfl (lv_at hl 0 rfl) ?_
  refine nw_get (D := D) (ci := 5) (C := R_Mo) (T := T_Mo) (N := 16) hx hb hts in_Mo hown hK.k hP (i := 0) (by decide) md_0 rfl 14 (by decide) (hts _ kf_Mo_35) rfl d_Mo_sizeAt_1 ?_
  refine lv_iload_n hx hb d_Mo_sizeAt_4 rfl (lv_at hl 1 rfl) ?_
  refine lv_iconst (v := nI 1) hx hb d_Mo_sizeAt_5 (by decide) ?_
  refine lv_iadd hx hb d_Mo_sizeAt_6 ?_
  refine lv_eqi (nI_add _ _) ?_
  refine nw_bald hx hb hK.k hP (i := 7) (by decide) md_7 0 rfl (vp_in_nI (by omega) (by omega)) d_Mo_sizeAt_7 ?_
  refine lv_eqi (y := sb_b (ro (a + 1))) (by rw [nI_clamp (by omega)]) ?_
  refine lv_sipush (v := nI 255) hx hb d_Mo_sizeAt_8 (by decide) ?_
  refine lv_iand hx hb d_Mo_sizeAt_11 ?_
  refine lv_eqi (y := nI (ro (a + 1))) (sb_and h0) ?_
  refine lv_aload_n hx hb d_Mo_sizeAt_12 rfl (lv_at hl 0 rfl) ?_
  refine lv_iload_n hx hb d_Mo_sizeAt_13 rfl (lv_at hl 1 rfl) ?_
  refine lv_iconst (v := nI 2) hx hb d_Mo_sizeAt_14 (by decide) ?_
  refine lv_iadd hx hb d_Mo_sizeAt_15 ?_
  refine lv_eqi (nI_add _ _) ?_
  refine lv_iconst (v := nI 2) hx hb d_Mo_sizeAt_16 (by decide) ?_
  refine call_R (As := [.int (nI (a + 2)), .int (nI 2)]) (rest := [.int (nI (ro (a + 1)))]) F hK (c_Mo_number l D cy ad fl tn cp cb bn fo dn w tp we be co fi ro lg op (a + 2) 2 (by omega) (by omega) HO) km_Mo_81 ki_Mo_number ks_Mo_number k0_Mo kc_Mo_number kd_Mo_number ⟨Nat.le_of_ble_eq_true rfl, Nat.le_of_ble_eq_true rfl⟩ (nw_recv hK.k hP (i := 0) (by decide) md_0 rfl) (hP) (hI) hl.1 rfl (Nat.le_of_ble_eq_true rfl) d_Mo_sizeAt_17 ⟨(Nat.le_of_ble_eq_true rfl), (Nat.le_of_ble_eq_true rfl)⟩ hS (fun H1 locs1 hN hS => ?_)
  have hP := hN _ _ _ hP
  generalize H1 = H at hP hS ⊢
  refine lv_iadd hx hb d_Mo_sizeAt_20 ?_
  refine lv_eqi (nI_add _ _) ?_
  exact end_R F hr hlk rfl hS d_Mo_sizeAt_21

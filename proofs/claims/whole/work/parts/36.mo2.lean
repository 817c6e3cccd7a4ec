/-! TornLogModel: feed, fill, end, retire, cut, mount, count -/
theorem bof_00 (v : Int32) : bof (v >>> (nI 0 &&& 31)) = nb v 0 := by
  have h1 : (v >>> (nI 0 &&& 31)).toInt = v.toInt / 1 := by
    rw [pk_shr v _ 0 (by decide), Int.shiftRight_eq_div_pow]; rfl
  obtain ⟨a1, a2⟩ := toInt_cases v
  obtain ⟨b1, b2⟩ := toInt_cases (v >>> (nI 0 &&& 31))
  unfold bof nb
  show _ = v.toBitVec.toNat / 1 % 256
  rw [h1] at b2
  generalize (v >>> (nI 0 &&& 31)).toBitVec.toNat = y at *
  omega
theorem bof_sh (v : Int32) {q : Nat} (h : q < 4) : bof (v >>> (nI (24 - 8 * q) &&& 31)) = nb v (3 - q) := by
  rcases (show q = 0 ∨ q = 1 ∨ q = 2 ∨ q = 3 by omega) with rfl | rfl | rfl | rfl
  · exact bof_24 v
  · exact bof_16 v
  · exact bof_8 v
  · exact bof_00 v
def sel5 (a b c d e : Int32) (k : Nat) : Int32 := if k < 4 then a else if k < 8 then b else if k < 12 then c else if k < 16 then d else e
def mfd (g : Nat → Nat) (n : Nat) (a b c d e : Int32) : Nat → (Nat → Nat)
  | 0 => g
  | k + 1 => va_up (mfd g n a b c d e k) (n + k) (nb (sel5 a b c d e k) (3 - k % 4))
theorem mfd_20 (g : Nat → Nat) (n : Nat) (a b c d e : Int32) : mfd g n a b c d e 20 = fd5 g n a b c d e := by
  simp [mfd, fd5, up4, sel5, Nat.add_assoc]
def mtL (be : Nat → Nat) (lg : Nat → Bool) (i : Nat) : Nat → Bool := fun b => if b < i then decide (0 < be b) else lg b
theorem mtL_0 (be : Nat → Nat) (lg : Nat → Bool) : mtL be lg 0 = lg := by funext b; simp [mtL]
theorem mtL_s (be : Nat → Nat) (lg : Nat → Bool) (i : Nat) : va_up (mtL be lg i) i (decide (0 < be i)) = mtL be lg (i + 1) := by
  funext b
  by_cases h : b = i
  · subst h; rw [va_up_self]; simp [mtL]
  · rw [va_up_ne _ _ h]
    simp only [mtL]
    by_cases h2 : b < i
    · rw [if_pos h2, if_pos (by omega)]
    · rw [if_neg h2, if_neg (by omega)]
theorem oI_ne {b : Nat} {op : Option Nat} (hb : b < 24) (ho : ∀ c, op = some c → c < 24) (h : op ≠ some b) : ¬ nI b = oI op := by
  cases op with
  | none =>
    intro h2
    have h3 : nI b < 0 := by rw [h2]; decide
    exact nI_pos (by omega) h3
  | some c =>
    intro h2
    have hc := ho c rfl
    exact h (by rw [(nI_eq (by omega) (by omega)).mp h2])
abbrev RM : Room := { frames := 3, cells := 0, slots := 0, locals := 80 }
set_option maxRecDepth 100000 in
set_option maxHeartbeats 4000000 in
theorem c_Mo_feed1 (l : Launch) (D : va_G) (cy : Nat → ClassId) (ad : Nat → Nat) (fl tn cp cb bn fo : Nat) (dn w : Bool) (tp we be co fi ro : Nat → Nat) (lg : Nat → Bool) (op : Option Nat) (xa xb xc xd xe : Int32) : mtI l y_Mo_feed b_Mo_feed 8 (some .int) RM D cy [.ref (ad 0), .int (xa), .int (xb), .int (xc), .int (xd), .int (xe)] PM ad (mdC cy ad fl true tp tn w cp cb we be lg co fi bn op ro fo) (mdC cy ad 1 true tp tn w cp cb we be lg co fi bn op ro fo) (nI 0) := by
  intro sz
  refine nm_ofW (cc := b_Mo_feed) (maxL := 8) (ret := (some .int)) (own := R_Mo) (by decide) (Nat.le_of_ble_eq_true rfl) rfl ?_
  intro p e s m below meth c ls F hr hlk hnm hv hl
  obtain ⟨hx, hb, hml, hown, hts⟩ := id F
  obtain ⟨rfl, hP, hK, hI⟩ := hv
  have hD : nd (na PM ad s.heap.size) PM ad := nd_self hI
  have hA : ∀ q, s.heap.size ≤ q → na PM ad s.heap.size q := fun q h => Or.inr h
  have hS : va_S (na PM ad s.heap.size) s.heap s.heap [] := va_S.rf
  have hl : lv_has ls 8 [(0, .ref (ad 0)), (1, .int (xa)), (2, .int (xb)), (3, .int (xc)), (4, .int (xd)), (5, .int (xe))] := hl
  refine lv_aload_n hx hb d_Mo_feed_0 rfl (lv_at hl 0 rfl) ?_
  refine lv_iconst (v := nI 0) hx hb d_Mo_feed_1 (by decide) ?_
  refine nw_put (D := D) (ci := 5) (C := R_Mo) (T := T_Mo) (N := 16) hx hb hts in_Mo ty_Mo tk_Mo nm_Mo hown hK.k hP hD hS (i := 0) (by decide) md_0 rfl 0 (by decide) (hts _ kf_Mo_38) rfl rfl rfl (Nat.le_of_ble_eq_true rfl) d_Mo_feed_2 (fun H locs hP hS hz hq => ?_)
  have hP : nw D vcl PM ad (mdC cy ad 0 true tp tn w cp cb we be lg co fi bn op ro fo) H := nw_congr hP (mdu_fl)
  refine lv_aload_n hx hb d_Mo_feed_5 rfl (lv_at hl 0 rfl) ?_
  refine nw_get (D := D) (ci := 5) (C := R_Mo) (T := T_Mo) (N := 16) hx hb hts in_Mo hown hK.k hP (i := 0) (by decide) md_0 rfl 1 (by decide) (hts _ kf_Mo_41) rfl d_Mo_feed_6 ?_
  refine lv_if_eq (tgt := 18) hx hb d_Mo_feed_9 (by decide) (fun c9 => absurd c9 (show ¬ bI true = 0 by decide)) (fun c9 => ?_)
  refine lv_aload_n hx hb d_Mo_feed_12 rfl (lv_at hl 0 rfl) ?_
  refine lv_iconst (v := nI 1) hx hb d_Mo_feed_13 (by decide) ?_
  refine call_I (As := [.int (nI 1)]) (rest := []) F hK (c_Mo_fail l D cy ad 0 tn cp cb bn fo true w tp we be co fi ro lg op 1) km_Mo_45 ki_Mo_fail ks_Mo_fail k0_Mo kc_Mo_fail kd_Mo_fail ⟨Nat.le_of_ble_eq_true rfl, Nat.le_of_ble_eq_true rfl⟩ (nw_recv hK.k hP (i := 0) (by decide) md_0 rfl) (hP) (hI) hl.1 rfl (Nat.le_of_ble_eq_true rfl) d_Mo_feed_14 ⟨(Nat.le_of_ble_eq_true rfl), (Nat.le_of_ble_eq_true rfl)⟩ hS (na_le hS) (fun H1 locs1 hP1 hk1 hS => ?_)
  have hP : nw D vcl PM ad (mdC cy ad 1 true tp tn w cp cb we be lg co fi bn op ro fo) H1 := hP1
  generalize H1 = H at hP hS ⊢
  exact end_I F hr hlk rfl hP hS d_Mo_feed_17
set_option maxRecDepth 100000 in
set_option maxHeartbeats 4000000 in
theorem c_Mo_feed2 (l : Launch) (D : va_G) (cy : Nat → ClassId) (ad : Nat → Nat) (fl tn cp cb bn fo : Nat) (dn w : Bool) (tp we be co fi ro : Nat → Nat) (lg : Nat → Bool) (op : Option Nat) (xa xb xc xd xe : Int32) (h : 1060 < tn + 20) (htn : tn ≤ 1060) : mtI l y_Mo_feed b_Mo_feed 8 (some .int) RM D cy [.ref (ad 0), .int (xa), .int (xb), .int (xc), .int (xd), .int (xe)] PM ad (mdC cy ad fl false tp tn w cp cb we be lg co fi bn op ro fo) (mdC cy ad 2 false tp tn w cp cb we be lg co fi bn op ro fo) (nI 0) := by
  intro sz
  refine nm_ofW (cc := b_Mo_feed) (maxL := 8) (ret := (some .int)) (own := R_Mo) (by decide) (Nat.le_of_ble_eq_true rfl) rfl ?_
  intro p e s m below meth c ls F hr hlk hnm hv hl
  obtain ⟨hx, hb, hml, hown, hts⟩ := id F
  obtain ⟨rfl, hP, hK, hI⟩ := hv
  have hD : nd (na PM ad s.heap.size) PM ad := nd_self hI
  have hA : ∀ q, s.heap.size ≤ q → na PM ad s.heap.size q := fun q h => Or.inr h
  have hS : va_S (na PM ad s.heap.size) s.heap s.heap [] := va_S.rf
  have hl : lv_has ls 8 [(0, .ref (ad 0)), (1, .int (xa)), (2, .int (xb)), (3, .int (xc)), (4, .int (xd)), (5, .int (xe))] := hl
  refine lv_aload_n hx hb d_Mo_feed_0 rfl (lv_at hl 0 rfl) ?_
  refine lv_iconst (v := nI 0) hx hb d_Mo_feed_1 (by decide) ?_
  refine nw_put (D := D) (ci := 5) (C := R_Mo) (T := T_Mo) (N := 16) hx hb hts in_Mo ty_Mo tk_Mo nm_Mo hown hK.k hP hD hS (i := 0) (by decide) md_0 rfl 0 (by decide) (hts _ kf_Mo_38) rfl rfl rfl (Nat.le_of_ble_eq_true rfl) d_Mo_feed_2 (fun H locs hP hS hz hq => ?_)
  have hP : nw D vcl PM ad (mdC cy ad 0 false tp tn w cp cb we be lg co fi bn op ro fo) H := nw_congr hP (mdu_fl)
  refine lv_aload_n hx hb d_Mo_feed_5 rfl (lv_at hl 0 rfl) ?_
  refine nw_get (D := D) (ci := 5) (C := R_Mo) (T := T_Mo) (N := 16) hx hb hts in_Mo hown hK.k hP (i := 0) (by decide) md_0 rfl 1 (by decide) (hts _ kf_Mo_41) rfl d_Mo_feed_6 ?_
  refine lv_if_eq (tgt := 18) hx hb d_Mo_feed_9 (by decide) (fun c9 => ?_) (fun c9 => absurd (show bI false = 0 by decide) c9)
  refine lv_aload_n hx hb d_Mo_feed_18 rfl (lv_at hl 0 rfl) ?_
  refine nw_get (D := D) (ci := 5) (C := R_Mo) (T := T_Mo) (N := 16) hx hb hts in_Mo hown hK.k hP (i := 0) (by decide) md_0 rfl 3 (by decide) (hts _ kf_Mo_49) rfl d_Mo_feed_19 ?_
  refine lv_bipush (v := nI 20) hx hb d_Mo_feed_22 (by decide) ?_
  refine lv_iadd hx hb d_Mo_feed_24 ?_
  refine lv_eqi (nI_add _ _) ?_
  refine lv_sipush (v := nI 1060) hx hb d_Mo_feed_25 (by decide) ?_
  refine lv_icmp_le (tgt := 37) hx hb d_Mo_feed_28 (by decide) (fun c28 => absurd c28 (fun z => absurd ((nI_leI (by omega) (by omega)).mp z) (by omega))) (fun c28 => ?_)
  refine lv_aload_n hx hb d_Mo_feed_31 rfl (lv_at hl 0 rfl) ?_
  refine lv_iconst (v := nI 2) hx hb d_Mo_feed_32 (by decide) ?_
  refine call_I (As := [.int (nI 2)]) (rest := []) F hK (c_Mo_fail l D cy ad 0 tn cp cb bn fo false w tp we be co fi ro lg op 2) km_Mo_45 ki_Mo_fail ks_Mo_fail k0_Mo kc_Mo_fail kd_Mo_fail ⟨Nat.le_of_ble_eq_true rfl, Nat.le_of_ble_eq_true rfl⟩ (nw_recv hK.k hP (i := 0) (by decide) md_0 rfl) (hP) (hI) hl.1 rfl (Nat.le_of_ble_eq_true rfl) d_Mo_feed_33 ⟨(Nat.le_of_ble_eq_true rfl), (Nat.le_of_ble_eq_true rfl)⟩ hS (na_le hS) (fun H1 locs1 hP1 hk1 hS => ?_)
  have hP : nw D vcl PM ad (mdC cy ad 2 false tp tn w cp cb we be lg co fi bn op ro fo) H1 := hP1
  generalize H1 = H at hP hS ⊢
  exact end_I F hr hlk rfl hP hS d_Mo_feed_36
set_option maxRecDepth 100000 in
set_option maxHeartbeats 4000000 in
theorem c_Mo_feed0 (l : Launch) (D : va_G) (cy : Nat → ClassId) (ad : Nat → Nat) (fl tn cp cb bn fo : Nat) (dn w : Bool) (tp we be co fi ro : Nat → Nat) (lg : Nat → Bool) (op : Option Nat) (xa xb xc xd xe : Int32) (h : tn + 20 ≤ 1060) : mtI l y_Mo_feed b_Mo_feed 8 (some .int) RM D cy [.ref (ad 0), .int (xa), .int (xb), .int (xc), .int (xd), .int (xe)] PM ad (mdC cy ad fl false tp tn w cp cb we be lg co fi bn op ro fo) (mdC cy ad 0 false (fd5 tp tn xa xb xc xd xe) (tn + 20) w cp cb we be lg co fi bn op ro fo) (nI (tn + 20)) := by
  intro sz
  refine nm_ofW (cc := b_Mo_feed) (maxL := 8) (ret := (some .int)) (own := R_Mo) (by decide) (Nat.le_of_ble_eq_true rfl) rfl ?_
  intro p e s m below meth c ls F hr hlk hnm hv hl
  obtain ⟨hx, hb, hml, hown, hts⟩ := id F
  obtain ⟨rfl, hP, hK, hI⟩ := hv
  have hD : nd (na PM ad s.heap.size) PM ad := nd_self hI
  have hA : ∀ q, s.heap.size ≤ q → na PM ad s.heap.size q := fun q h => Or.inr h
  have hS : va_S (na PM ad s.heap.size) s.heap s.heap [] := va_S.rf
  have hl : lv_has ls 8 [(0, .ref (ad 0)), (1, .int (xa)), (2, .int (xb)), (3, .int (xc)), (4, .int (xd)), (5, .int (xe))] := hl
  refine lv_aload_n hx hb d_Mo_feed_0 rfl (lv_at hl 0 rfl) ?_
  refine lv_iconst (v := nI 0) hx hb d_Mo_feed_1 (by decide) ?_
  refine nw_put (D := D) (ci := 5) (C := R_Mo) (T := T_Mo) (N := 16) hx hb hts in_Mo ty_Mo tk_Mo nm_Mo hown hK.k hP hD hS (i := 0) (by decide) md_0 rfl 0 (by decide) (hts _ kf_Mo_38) rfl rfl rfl (Nat.le_of_ble_eq_true rfl) d_Mo_feed_2 (fun H locs hP hS hz hq => ?_)
  have hP : nw D vcl PM ad (mdC cy ad 0 false tp tn w cp cb we be lg co fi bn op ro fo) H := nw_congr hP (mdu_fl)
  refine lv_aload_n hx hb d_Mo_feed_5 rfl (lv_at hl 0 rfl) ?_
  refine nw_get (D := D) (ci := 5) (C := R_Mo) (T := T_Mo) (N := 16) hx hb hts in_Mo hown hK.k hP (i := 0) (by decide) md_0 rfl 1 (by decide) (hts _ kf_Mo_41) rfl d_Mo_feed_6 ?_
  refine lv_if_eq (tgt := 18) hx hb d_Mo_feed_9 (by decide) (fun c9 => ?_) (fun c9 => absurd (show bI false = 0 by decide) c9)
  refine lv_aload_n hx hb d_Mo_feed_18 rfl (lv_at hl 0 rfl) ?_
  refine nw_get (D := D) (ci := 5) (C := R_Mo) (T := T_Mo) (N := 16) hx hb hts in_Mo hown hK.k hP (i := 0) (by decide) md_0 rfl 3 (by decide) (hts _ kf_Mo_49) rfl d_Mo_feed_19 ?_
  refine lv_bipush (v := nI 20) hx hb d_Mo_feed_22 (by decide) ?_
  refine lv_iadd hx hb d_Mo_feed_24 ?_
  refine lv_eqi (nI_add _ _) ?_
  refine lv_sipush (v := nI 1060) hx hb d_Mo_feed_25 (by decide) ?_
  refine lv_icmp_le (tgt := 37) hx hb d_Mo_feed_28 (by decide) (fun c28 => ?_) (fun c28 => absurd ((nI_leI (by omega) (by omega)).mpr (by omega)) c28)
  refine lv_iconst (v := nI 0) hx hb d_Mo_feed_37 (by decide) ?_
  refine lv_istore (lv' := [(6, .int (nI 0)), (0, .ref (ad 0)), (1, .int (xa)), (2, .int (xb)), (3, .int (xc)), (4, .int (xd)), (5, .int (xe))]) hx hb d_Mo_feed_38 hl (by decide) rfl (fun ls hl => ?_)
  have hP : nw D vcl PM ad (mdC cy ad 0 false (mfd tp tn xa xb xc xd xe 0) (tn + 0) w cp cb we be lg co fi bn op ro fo) H := hP
  rw [← mfd_20]
  have loop : ∀ (j i : Nat), i + j = 20 → ∀ (H : Heap) (locs : List Loc) (ls : Array Slot), nw D vcl PM ad (mdC cy ad 0 false (mfd tp tn xa xb xc xd xe i) (tn + i) w cp cb we be lg co fi bn op ro fo) H → va_S (na PM ad s.heap.size) s.heap H locs → lv_has ls 8 [(6, .int (nI i)), (0, .ref (ad 0)), (1, .int (xa)), (2, .int (xb)), (3, .int (xc)), (4, .int (xd)), (5, .int (xe))] → W p l e RM s m [.ref (ad 0), .int (xa), .int (xb), .int (xc), .int (xd), .int (xe)].toArray below meth c H locs 0 0 (MQ below (va_Qi (fun r' (_ : Unit) => r' = nI (tn + 20)) (fun _ t => nw D vcl PM ad (mdC cy ad 0 false (mfd tp tn xa xb xc xd xe 20) (tn + 20) w cp cb we be lg co fi bn op ro fo) t.heap) (na PM ad s.heap.size)) [.ref (ad 0), .int (xa), .int (xb), .int (xc), .int (xd), .int (xe)].toArray s 0 0 (na PM ad s.heap.size)) (F0 m 40 ls []) := by
    intro j
    induction j with
    | zero =>
      intro i hi H locs ls hP hS hl
      obtain rfl : i = 20 := by omega
      refine lv_iload hx hb d_Mo_feed_40 (lv_at hl 0 rfl) ?_
      refine lv_bipush (v := nI 20) hx hb d_Mo_feed_42 (by decide) ?_
      refine lv_icmp_ge (tgt := 134) hx hb d_Mo_feed_44 (by decide) (fun c44 => ?_) (fun c44 => absurd ((nI_leI (by omega) (by omega)).mpr (by omega)) c44)
      refine lv_aload_n hx hb d_Mo_feed_134 rfl (lv_at hl 1 rfl) ?_
      refine nw_get (D := D) (ci := 5) (C := R_Mo) (T := T_Mo) (N := 16) hx hb hts in_Mo hown hK.k hP (i := 0) (by decide) md_0 rfl 3 (by decide) (hts _ kf_Mo_49) rfl d_Mo_feed_135 ?_
      exact end_I F hr hlk rfl hP hS d_Mo_feed_138
    | succ j ih =>
      intro i hi H locs ls hP hS hl
      refine lv_iload hx hb d_Mo_feed_40 (lv_at hl 0 rfl) ?_
      refine lv_bipush (v := nI 20) hx hb d_Mo_feed_42 (by decide) ?_
      refine lv_icmp_ge (tgt := 134) hx hb d_Mo_feed_44 (by decide) (fun c44 => absurd c44 (fun z => absurd ((nI_leI (by omega) (by omega)).mp z) (by omega))) (fun c44 => ?_)
      have cont : ∀ x : Int32, x = sel5 xa xb xc xd xe i → W p l e RM s m [.ref (ad 0), .int (xa), .int (xb), .int (xc), .int (xd), .int (xe)].toArray below meth c H locs 0 0 (MQ below (va_Qi (fun r' (_ : Unit) => r' = nI (tn + 20)) (fun _ t => nw D vcl PM ad (mdC cy ad 0 false (mfd tp tn xa xb xc xd xe 20) (tn + 20) w cp cb we be lg co fi bn op ro fo) t.heap) (na PM ad s.heap.size)) [.ref (ad 0), .int (xa), .int (xb), .int (xc), .int (xd), .int (xe)].toArray s 0 0 (na PM ad s.heap.size)) (F0 m 93 ls [.int x]) := by
        intro x hx0
        refine lv_istore (lv' := [(7, .int (x)), (6, .int (nI i)), (0, .ref (ad 0)), (1, .int (xa)), (2, .int (xb)), (3, .int (xc)), (4, .int (xd)), (5, .int (xe))]) hx hb d_Mo_feed_93 hl (by decide) rfl (fun ls hl => ?_)
        refine lv_aload_n hx hb d_Mo_feed_95 rfl (lv_at hl 2 rfl) ?_
        refine nw_get (D := D) (ci := 5) (C := R_Mo) (T := T_Mo) (N := 16) hx hb hts in_Mo hown hK.k hP (i := 0) (by decide) md_0 rfl 2 (by decide) (hts _ kf_Mo_7) rfl d_Mo_feed_96 ?_
        refine lv_aload_n hx hb d_Mo_feed_99 rfl (lv_at hl 2 rfl) ?_
        refine nw_get (D := D) (ci := 5) (C := R_Mo) (T := T_Mo) (N := 16) hx hb hts in_Mo hown hK.k hP (i := 0) (by decide) md_0 rfl 3 (by decide) (hts _ kf_Mo_49) rfl d_Mo_feed_100 ?_
        refine lv_iload hx hb d_Mo_feed_103 (lv_at hl 0 rfl) ?_
        refine lv_bipush (v := nI 24) hx hb d_Mo_feed_105 (by decide) ?_
        refine lv_bipush (v := nI 8) hx hb d_Mo_feed_107 (by decide) ?_
        refine lv_iload hx hb d_Mo_feed_109 (lv_at hl 1 rfl) ?_
        refine lv_iconst (v := nI 4) hx hb d_Mo_feed_111 (by decide) ?_
        refine lv_irem hx hb d_Mo_feed_112 (by decide) ?_
        refine lv_eqi (pk_rem (by omega) (by omega) (by omega)) ?_
        refine lv_imul hx hb d_Mo_feed_113 ?_
        refine lv_eqi (pk_mul _ _) ?_
        refine lv_isub hx hb d_Mo_feed_114 ?_
        refine lv_eqi (pk_sub (by omega)) ?_
        refine lv_ishr hx hb d_Mo_feed_115 ?_
        refine lv_i2b hx hb d_Mo_feed_116 rfl ?_
        refine nw_bast hx hb hK.k hP hD hS (i := 1) (by decide) md_1 0 rfl (vp_in_nI (by omega) (by omega)) d_Mo_feed_117 (fun H locs hP hS hz hq => ?_)
        rw [nI_clamp (by omega), sb_na, bof_sh _ (by omega), hx0, by_upd] at hP
        have hP : nw D vcl PM ad (mdC cy ad 0 false (mfd tp tn xa xb xc xd xe (i + 1)) (tn + i) w cp cb we be lg co fi bn op ro fo) H := nw_congr hP (mdu_tp)
        refine lv_aload_n hx hb d_Mo_feed_118 rfl (lv_at hl 2 rfl) ?_
        refine lv_dup hx hb d_Mo_feed_119 rfl ?_
        refine nw_get (D := D) (ci := 5) (C := R_Mo) (T := T_Mo) (N := 16) hx hb hts in_Mo hown hK.k hP (i := 0) (by decide) md_0 rfl 3 (by decide) (hts _ kf_Mo_49) rfl d_Mo_feed_120 ?_
        refine lv_iconst (v := nI 1) hx hb d_Mo_feed_123 (by decide) ?_
        refine lv_iadd hx hb d_Mo_feed_124 ?_
        refine lv_eqi (nI_add _ _) ?_
        refine nw_put (D := D) (ci := 5) (C := R_Mo) (T := T_Mo) (N := 16) hx hb hts in_Mo ty_Mo tk_Mo nm_Mo hown hK.k hP hD hS (i := 0) (by decide) md_0 rfl 3 (by decide) (hts _ kf_Mo_49) rfl rfl rfl (Nat.le_of_ble_eq_true rfl) d_Mo_feed_125 (fun H locs hP hS hz hq => ?_)
        have hP : nw D vcl PM ad (mdC cy ad 0 false (mfd tp tn xa xb xc xd xe ((i + 1))) (tn + (i + 1)) w cp cb we be lg co fi bn op ro fo) H := nw_congr hP (mdu_tn)
        refine lv_iinc (v := nI (i + 1)) (lv' := [(6, .int (nI (i + 1))), (7, .int (x)), (0, .ref (ad 0)), (1, .int (xa)), (2, .int (xb)), (3, .int (xc)), (4, .int (xd)), (5, .int (xe))]) hx hb d_Mo_feed_128 hl (k := 1) rfl (nI_inc _) (by decide) rfl (fun ls hl => ?_)
        refine lv_goto (tgt := 40) hx hb d_Mo_feed_131 (by decide) ?_
        exact ih (i + 1) (by omega) _ _ _ hP hS (lv_sub hl [0, 2, 3, 4, 5, 6, 7] rfl)
      refine lv_iload hx hb d_Mo_feed_47 (lv_at hl 0 rfl) ?_
      refine lv_iconst (v := nI 4) hx hb d_Mo_feed_49 (by decide) ?_
      refine lv_icmp_ge (tgt := 57) hx hb d_Mo_feed_50 (by decide) (fun c50 => ?_) (fun c50 => ?_)
      · have c50 := (nI_leI (by omega) (by omega)).mp c50
        refine lv_iload hx hb d_Mo_feed_57 (lv_at hl 0 rfl) ?_
        refine lv_bipush (v := nI 8) hx hb d_Mo_feed_59 (by decide) ?_
        refine lv_icmp_ge (tgt := 68) hx hb d_Mo_feed_61 (by decide) (fun c61 => ?_) (fun c61 => ?_)
        · have c61 := (nI_leI (by omega) (by omega)).mp c61
          refine lv_iload hx hb d_Mo_feed_68 (lv_at hl 0 rfl) ?_
          refine lv_bipush (v := nI 12) hx hb d_Mo_feed_70 (by decide) ?_
          refine lv_icmp_ge (tgt := 79) hx hb d_Mo_feed_72 (by decide) (fun c72 => ?_) (fun c72 => ?_)
          · have c72 := (nI_leI (by omega) (by omega)).mp c72
            refine lv_iload hx hb d_Mo_feed_79 (lv_at hl 0 rfl) ?_
            refine lv_bipush (v := nI 16) hx hb d_Mo_feed_81 (by decide) ?_
            refine lv_icmp_ge (tgt := 91) hx hb d_Mo_feed_83 (by decide) (fun c83 => ?_) (fun c83 => ?_)
            · have c83 := (nI_leI (by omega) (by omega)).mp c83
              refine lv_iload hx hb d_Mo_feed_91 (lv_at hl 6 rfl) ?_
              exact cont _ (by simp only [sel5, if_neg (show ¬ i < 4 by omega), if_neg (show ¬ i < 8 by omega), if_neg (show ¬ i < 12 by omega), if_neg (show ¬ i < 16 by omega)])
            · have c83 := mt (nI_leI (by omega) (by omega)).mpr c83
              refine lv_iload hx hb d_Mo_feed_86 (lv_at hl 5 rfl) ?_
              refine lv_goto (tgt := 93) hx hb d_Mo_feed_88 (by decide) ?_
              exact cont _ (by simp only [sel5, if_neg (show ¬ i < 4 by omega), if_neg (show ¬ i < 8 by omega), if_neg (show ¬ i < 12 by omega), if_pos (show i < 16 by omega)])
          · have c72 := mt (nI_leI (by omega) (by omega)).mpr c72
            refine lv_iload_n hx hb d_Mo_feed_75 rfl (lv_at hl 4 rfl) ?_
            refine lv_goto (tgt := 93) hx hb d_Mo_feed_76 (by decide) ?_
            exact cont _ (by simp only [sel5, if_neg (show ¬ i < 4 by omega), if_neg (show ¬ i < 8 by omega), if_pos (show i < 12 by omega)])
        · have c61 := mt (nI_leI (by omega) (by omega)).mpr c61
          refine lv_iload_n hx hb d_Mo_feed_64 rfl (lv_at hl 3 rfl) ?_
          refine lv_goto (tgt := 93) hx hb d_Mo_feed_65 (by decide) ?_
          exact cont _ (by simp only [sel5, if_neg (show ¬ i < 4 by omega), if_pos (show i < 8 by omega)])
      · have c50 := mt (nI_leI (by omega) (by omega)).mpr c50
        refine lv_iload_n hx hb d_Mo_feed_53 rfl (lv_at hl 2 rfl) ?_
        refine lv_goto (tgt := 93) hx hb d_Mo_feed_54 (by decide) ?_
        exact cont _ (by simp only [sel5, if_pos (show i < 4 by omega)])
  exact loop 20 0 (by omega) _ _ _ hP hS (lv_sub hl [0, 1, 2, 3, 4, 5, 6] rfl)
set_option maxRecDepth 100000 in
set_option maxHeartbeats 4000000 in
theorem c_Mo_fill1 (l : Launch) (D : va_G) (cy : Nat → ClassId) (ad : Nat → Nat) (fl tn cp cb bn fo : Nat) (dn w : Bool) (tp we be co fi ro : Nat → Nat) (lg : Nat → Bool) (op : Option Nat) (x y : Int32) (h : (x < nI 0 ∨ nI 255 < x) ∨ (y < nI 1 ∨ nI 1000 < y)) : mtI l y_Mo_fill b_Mo_fill 4 (some .int) RM D cy [.ref (ad 0), .int (x), .int (y)] PM ad (mdC cy ad fl dn tp tn w cp cb we be lg co fi bn op ro fo) (mdC cy ad 1 dn tp tn w cp cb we be lg co fi bn op ro fo) (nI 0) := by
  intro sz
  refine nm_ofW (cc := b_Mo_fill) (maxL := 4) (ret := (some .int)) (own := R_Mo) (by decide) (Nat.le_of_ble_eq_true rfl) rfl ?_
  intro p e s m below meth c ls F hr hlk hnm hv hl
  obtain ⟨hx, hb, hml, hown, hts⟩ := id F
  obtain ⟨rfl, hP, hK, hI⟩ := hv
  have hD : nd (na PM ad s.heap.size) PM ad := nd_self hI
  have hA : ∀ q, s.heap.size ≤ q → na PM ad s.heap.size q := fun q h => Or.inr h
  have hS : va_S (na PM ad s.heap.size) s.heap s.heap [] := va_S.rf
  have hl : lv_has ls 4 [(0, .ref (ad 0)), (1, .int (x)), (2, .int (y))] := hl
  refine lv_aload_n hx hb d_Mo_fill_0 rfl (lv_at hl 0 rfl) ?_
  refine lv_iconst (v := nI 0) hx hb d_Mo_fill_1 (by decide) ?_
  refine nw_put (D := D) (ci := 5) (C := R_Mo) (T := T_Mo) (N := 16) hx hb hts in_Mo ty_Mo tk_Mo nm_Mo hown hK.k hP hD hS (i := 0) (by decide) md_0 rfl 0 (by decide) (hts _ kf_Mo_38) rfl rfl rfl (Nat.le_of_ble_eq_true rfl) d_Mo_fill_2 (fun H locs hP hS hz hq => ?_)
  have hP : nw D vcl PM ad (mdC cy ad 0 dn tp tn w cp cb we be lg co fi bn op ro fo) H := nw_congr hP (mdu_fl)
  refine lv_iload_n hx hb d_Mo_fill_5 rfl (lv_at hl 1 rfl) ?_
  refine lv_if_lt (tgt := 28) hx hb d_Mo_fill_6 (by decide) (fun c6 => ?_) (fun c6 => ?_)
  · refine lv_aload_n hx hb d_Mo_fill_28 rfl (lv_at hl 0 rfl) ?_
    refine lv_iconst (v := nI 1) hx hb d_Mo_fill_29 (by decide) ?_
    refine call_I (As := [.int (nI 1)]) (rest := []) F hK (c_Mo_fail l D cy ad 0 tn cp cb bn fo dn w tp we be co fi ro lg op 1) km_Mo_45 ki_Mo_fail ks_Mo_fail k0_Mo kc_Mo_fail kd_Mo_fail ⟨Nat.le_of_ble_eq_true rfl, Nat.le_of_ble_eq_true rfl⟩ (nw_recv hK.k hP (i := 0) (by decide) md_0 rfl) (hP) (hI) hl.1 rfl (Nat.le_of_ble_eq_true rfl) d_Mo_fill_30 ⟨(Nat.le_of_ble_eq_true rfl), (Nat.le_of_ble_eq_true rfl)⟩ hS (na_le hS) (fun H1 locs1 hP1 hk1 hS => ?_)
    have hP : nw D vcl PM ad (mdC cy ad 1 dn tp tn w cp cb we be lg co fi bn op ro fo) H1 := hP1
    generalize H1 = H at hP hS ⊢
    exact end_I F hr hlk rfl hP hS d_Mo_fill_33
  · refine lv_iload_n hx hb d_Mo_fill_9 rfl (lv_at hl 1 rfl) ?_
    refine lv_sipush (v := nI 255) hx hb d_Mo_fill_10 (by decide) ?_
    refine lv_icmp_gt (tgt := 28) hx hb d_Mo_fill_13 (by decide) (fun c13 => ?_) (fun c13 => ?_)
    · refine lv_aload_n hx hb d_Mo_fill_28 rfl (lv_at hl 0 rfl) ?_
      refine lv_iconst (v := nI 1) hx hb d_Mo_fill_29 (by decide) ?_
      refine call_I (As := [.int (nI 1)]) (rest := []) F hK (c_Mo_fail l D cy ad 0 tn cp cb bn fo dn w tp we be co fi ro lg op 1) km_Mo_45 ki_Mo_fail ks_Mo_fail k0_Mo kc_Mo_fail kd_Mo_fail ⟨Nat.le_of_ble_eq_true rfl, Nat.le_of_ble_eq_true rfl⟩ (nw_recv hK.k hP (i := 0) (by decide) md_0 rfl) (hP) (hI) hl.1 rfl (Nat.le_of_ble_eq_true rfl) d_Mo_fill_30 ⟨(Nat.le_of_ble_eq_true rfl), (Nat.le_of_ble_eq_true rfl)⟩ hS (na_le hS) (fun H1 locs1 hP1 hk1 hS => ?_)
      have hP : nw D vcl PM ad (mdC cy ad 1 dn tp tn w cp cb we be lg co fi bn op ro fo) H1 := hP1
      generalize H1 = H at hP hS ⊢
      exact end_I F hr hlk rfl hP hS d_Mo_fill_33
    · refine lv_iload_n hx hb d_Mo_fill_16 rfl (lv_at hl 2 rfl) ?_
      refine lv_iconst (v := nI 1) hx hb d_Mo_fill_17 (by decide) ?_
      refine lv_icmp_lt (tgt := 28) hx hb d_Mo_fill_18 (by decide) (fun c18 => ?_) (fun c18 => ?_)
      · refine lv_aload_n hx hb d_Mo_fill_28 rfl (lv_at hl 0 rfl) ?_
        refine lv_iconst (v := nI 1) hx hb d_Mo_fill_29 (by decide) ?_
        refine call_I (As := [.int (nI 1)]) (rest := []) F hK (c_Mo_fail l D cy ad 0 tn cp cb bn fo dn w tp we be co fi ro lg op 1) km_Mo_45 ki_Mo_fail ks_Mo_fail k0_Mo kc_Mo_fail kd_Mo_fail ⟨Nat.le_of_ble_eq_true rfl, Nat.le_of_ble_eq_true rfl⟩ (nw_recv hK.k hP (i := 0) (by decide) md_0 rfl) (hP) (hI) hl.1 rfl (Nat.le_of_ble_eq_true rfl) d_Mo_fill_30 ⟨(Nat.le_of_ble_eq_true rfl), (Nat.le_of_ble_eq_true rfl)⟩ hS (na_le hS) (fun H1 locs1 hP1 hk1 hS => ?_)
        have hP : nw D vcl PM ad (mdC cy ad 1 dn tp tn w cp cb we be lg co fi bn op ro fo) H1 := hP1
        generalize H1 = H at hP hS ⊢
        exact end_I F hr hlk rfl hP hS d_Mo_fill_33
      · refine lv_iload_n hx hb d_Mo_fill_21 rfl (lv_at hl 2 rfl) ?_
        refine lv_sipush (v := nI 1000) hx hb d_Mo_fill_22 (by decide) ?_
        refine lv_icmp_le (tgt := 34) hx hb d_Mo_fill_25 (by decide) (fun c25 => absurd c25 (fun z => absurd h (by rintro ((h | h) | (h | h)) <;> first | exact c6 h | exact c13 h | exact c18 h | exact Int32.not_lt.mpr z h))) (fun c25 => ?_)
        refine lv_aload_n hx hb d_Mo_fill_28 rfl (lv_at hl 0 rfl) ?_
        refine lv_iconst (v := nI 1) hx hb d_Mo_fill_29 (by decide) ?_
        refine call_I (As := [.int (nI 1)]) (rest := []) F hK (c_Mo_fail l D cy ad 0 tn cp cb bn fo dn w tp we be co fi ro lg op 1) km_Mo_45 ki_Mo_fail ks_Mo_fail k0_Mo kc_Mo_fail kd_Mo_fail ⟨Nat.le_of_ble_eq_true rfl, Nat.le_of_ble_eq_true rfl⟩ (nw_recv hK.k hP (i := 0) (by decide) md_0 rfl) (hP) (hI) hl.1 rfl (Nat.le_of_ble_eq_true rfl) d_Mo_fill_30 ⟨(Nat.le_of_ble_eq_true rfl), (Nat.le_of_ble_eq_true rfl)⟩ hS (na_le hS) (fun H1 locs1 hP1 hk1 hS => ?_)
        have hP : nw D vcl PM ad (mdC cy ad 1 dn tp tn w cp cb we be lg co fi bn op ro fo) H1 := hP1
        generalize H1 = H at hP hS ⊢
        exact end_I F hr hlk rfl hP hS d_Mo_fill_33
set_option maxRecDepth 100000 in
set_option maxHeartbeats 4000000 in
theorem c_Mo_fill2 (l : Launch) (D : va_G) (cy : Nat → ClassId) (ad : Nat → Nat) (fl tn cp cb bn fo : Nat) (dn w : Bool) (tp we be co fi ro : Nat → Nat) (lg : Nat → Bool) (op : Option Nat) (v n : Nat) (hv : v ≤ 255) (hn1 : 1 ≤ n) (hn2 : n ≤ 1000) : mtI l y_Mo_fill b_Mo_fill 4 (some .int) RM D cy [.ref (ad 0), .int (nI v), .int (nI n)] PM ad (mdC cy ad fl true tp tn w cp cb we be lg co fi bn op ro fo) (mdC cy ad 2 true tp tn w cp cb we be lg co fi bn op ro fo) (nI 0) := by
  intro sz
  refine nm_ofW (cc := b_Mo_fill) (maxL := 4) (ret := (some .int)) (own := R_Mo) (by decide) (Nat.le_of_ble_eq_true rfl) rfl ?_
  intro p e s m below meth c ls F hr hlk hnm hv hl
  obtain ⟨hx, hb, hml, hown, hts⟩ := id F
  obtain ⟨rfl, hP, hK, hI⟩ := hv
  have hD : nd (na PM ad s.heap.size) PM ad := nd_self hI
  have hA : ∀ q, s.heap.size ≤ q → na PM ad s.heap.size q := fun q h => Or.inr h
  have hS : va_S (na PM ad s.heap.size) s.heap s.heap [] := va_S.rf
  have hl : lv_has ls 4 [(0, .ref (ad 0)), (1, .int (nI v)), (2, .int (nI n))] := hl
  refine lv_aload_n hx hb d_Mo_fill_0 rfl (lv_at hl 0 rfl) ?_
  refine lv_iconst (v := nI 0) hx hb d_Mo_fill_1 (by decide) ?_
  refine nw_put (D := D) (ci := 5) (C := R_Mo) (T := T_Mo) (N := 16) hx hb hts in_Mo ty_Mo tk_Mo nm_Mo hown hK.k hP hD hS (i := 0) (by decide) md_0 rfl 0 (by decide) (hts _ kf_Mo_38) rfl rfl rfl (Nat.le_of_ble_eq_true rfl) d_Mo_fill_2 (fun H locs hP hS hz hq => ?_)
  have hP : nw D vcl PM ad (mdC cy ad 0 true tp tn w cp cb we be lg co fi bn op ro fo) H := nw_congr hP (mdu_fl)
  refine lv_iload_n hx hb d_Mo_fill_5 rfl (lv_at hl 1 rfl) ?_
  refine lv_if_lt (tgt := 28) hx hb d_Mo_fill_6 (by decide) (fun c6 => absurd c6 (nI_pos (by omega))) (fun c6 => ?_)
  refine lv_iload_n hx hb d_Mo_fill_9 rfl (lv_at hl 1 rfl) ?_
  refine lv_sipush (v := nI 255) hx hb d_Mo_fill_10 (by decide) ?_
  refine lv_icmp_gt (tgt := 28) hx hb d_Mo_fill_13 (by decide) (fun c13 => absurd c13 (fun z => absurd ((nI_ltI (by omega) (by omega)).mp z) (by omega))) (fun c13 => ?_)
  refine lv_iload_n hx hb d_Mo_fill_16 rfl (lv_at hl 2 rfl) ?_
  refine lv_iconst (v := nI 1) hx hb d_Mo_fill_17 (by decide) ?_
  refine lv_icmp_lt (tgt := 28) hx hb d_Mo_fill_18 (by decide) (fun c18 => absurd c18 (fun z => absurd ((nI_ltI (by omega) (by omega)).mp z) (by omega))) (fun c18 => ?_)
  refine lv_iload_n hx hb d_Mo_fill_21 rfl (lv_at hl 2 rfl) ?_
  refine lv_sipush (v := nI 1000) hx hb d_Mo_fill_22 (by decide) ?_
  refine lv_icmp_le (tgt := 34) hx hb d_Mo_fill_25 (by decide) (fun c25 => ?_) (fun c25 => absurd ((nI_leI (by omega) (by omega)).mpr (by omega)) c25)
  refine lv_aload_n hx hb d_Mo_fill_34 rfl (lv_at hl 0 rfl) ?_
  refine nw_get (D := D) (ci := 5) (C := R_Mo) (T := T_Mo) (N := 16) hx hb hts in_Mo hown hK.k hP (i := 0) (by decide) md_0 rfl 1 (by decide) (hts _ kf_Mo_41) rfl d_Mo_fill_35 ?_
  refine lv_if_eq (tgt := 47) hx hb d_Mo_fill_38 (by decide) (fun c38 => absurd c38 (show ¬ bI true = 0 by decide)) (fun c38 => ?_)
  refine lv_aload_n hx hb d_Mo_fill_41 rfl (lv_at hl 0 rfl) ?_
  refine lv_iconst (v := nI 2) hx hb d_Mo_fill_42 (by decide) ?_
  refine call_I (As := [.int (nI 2)]) (rest := []) F hK (c_Mo_fail l D cy ad 0 tn cp cb bn fo true w tp we be co fi ro lg op 2) km_Mo_45 ki_Mo_fail ks_Mo_fail k0_Mo kc_Mo_fail kd_Mo_fail ⟨Nat.le_of_ble_eq_true rfl, Nat.le_of_ble_eq_true rfl⟩ (nw_recv hK.k hP (i := 0) (by decide) md_0 rfl) (hP) (hI) hl.1 rfl (Nat.le_of_ble_eq_true rfl) d_Mo_fill_43 ⟨(Nat.le_of_ble_eq_true rfl), (Nat.le_of_ble_eq_true rfl)⟩ hS (na_le hS) (fun H1 locs1 hP1 hk1 hS => ?_)
  have hP : nw D vcl PM ad (mdC cy ad 2 true tp tn w cp cb we be lg co fi bn op ro fo) H1 := hP1
  generalize H1 = H at hP hS ⊢
  exact end_I F hr hlk rfl hP hS d_Mo_fill_46
set_option maxRecDepth 100000 in
set_option maxHeartbeats 4000000 in
theorem c_Mo_fill3 (l : Launch) (D : va_G) (cy : Nat → ClassId) (ad : Nat → Nat) (fl tn cp cb bn fo : Nat) (dn w : Bool) (tp we be co fi ro : Nat → Nat) (lg : Nat → Bool) (op : Option Nat) (v n : Nat) (hv : v ≤ 255) (hn1 : 1 ≤ n) (hn2 : n ≤ 1000) (h : 1060 < tn + n) (htn : tn ≤ 1060) : mtI l y_Mo_fill b_Mo_fill 4 (some .int) RM D cy [.ref (ad 0), .int (nI v), .int (nI n)] PM ad (mdC cy ad fl false tp tn w cp cb we be lg co fi bn op ro fo) (mdC cy ad 3 false tp tn w cp cb we be lg co fi bn op ro fo) (nI 0) := by
  intro sz
  refine nm_ofW (cc := b_Mo_fill) (maxL := 4) (ret := (some .int)) (own := R_Mo) (by decide) (Nat.le_of_ble_eq_true rfl) rfl ?_
  intro p e s m below meth c ls F hr hlk hnm hv hl
  obtain ⟨hx, hb, hml, hown, hts⟩ := id F
  obtain ⟨rfl, hP, hK, hI⟩ := hv
  have hD : nd (na PM ad s.heap.size) PM ad := nd_self hI
  have hA : ∀ q, s.heap.size ≤ q → na PM ad s.heap.size q := fun q h => Or.inr h
  have hS : va_S (na PM ad s.heap.size) s.heap s.heap [] := va_S.rf
  have hl : lv_has ls 4 [(0, .ref (ad 0)), (1, .int (nI v)), (2, .int (nI n))] := hl
  refine lv_aload_n hx hb d_Mo_fill_0 rfl (lv_at hl 0 rfl) ?_
  refine lv_iconst (v := nI 0) hx hb d_Mo_fill_1 (by decide) ?_
  refine nw_put (D := D) (ci := 5) (C := R_Mo) (T := T_Mo) (N := 16) hx hb hts in_Mo ty_Mo tk_Mo nm_Mo hown hK.k hP hD hS (i := 0) (by decide) md_0 rfl 0 (by decide) (hts _ kf_Mo_38) rfl rfl rfl (Nat.le_of_ble_eq_true rfl) d_Mo_fill_2 (fun H locs hP hS hz hq => ?_)
  have hP : nw D vcl PM ad (mdC cy ad 0 false tp tn w cp cb we be lg co fi bn op ro fo) H := nw_congr hP (mdu_fl)
  refine lv_iload_n hx hb d_Mo_fill_5 rfl (lv_at hl 1 rfl) ?_
  refine lv_if_lt (tgt := 28) hx hb d_Mo_fill_6 (by decide) (fun c6 => absurd c6 (nI_pos (by omega))) (fun c6 => ?_)
  refine lv_iload_n hx hb d_Mo_fill_9 rfl (lv_at hl 1 rfl) ?_
  refine lv_sipush (v := nI 255) hx hb d_Mo_fill_10 (by decide) ?_
  refine lv_icmp_gt (tgt := 28) hx hb d_Mo_fill_13 (by decide) (fun c13 => absurd c13 (fun z => absurd ((nI_ltI (by omega) (by omega)).mp z) (by omega))) (fun c13 => ?_)
  refine lv_iload_n hx hb d_Mo_fill_16 rfl (lv_at hl 2 rfl) ?_
  refine lv_iconst (v := nI 1) hx hb d_Mo_fill_17 (by decide) ?_
  refine lv_icmp_lt (tgt := 28) hx hb d_Mo_fill_18 (by decide) (fun c18 => absurd c18 (fun z => absurd ((nI_ltI (by omega) (by omega)).mp z) (by omega))) (fun c18 => ?_)
  refine lv_iload_n hx hb d_Mo_fill_21 rfl (lv_at hl 2 rfl) ?_
  refine lv_sipush (v := nI 1000) hx hb d_Mo_fill_22 (by decide) ?_
  refine lv_icmp_le (tgt := 34) hx hb d_Mo_fill_25 (by decide) (fun c25 => ?_) (fun c25 => absurd ((nI_leI (by omega) (by omega)).mpr (by omega)) c25)
  refine lv_aload_n hx hb d_Mo_fill_34 rfl (lv_at hl 0 rfl) ?_
  refine nw_get (D := D) (ci := 5) (C := R_Mo) (T := T_Mo) (N := 16) hx hb hts in_Mo hown hK.k hP (i := 0) (by decide) md_0 rfl 1 (by decide) (hts _ kf_Mo_41) rfl d_Mo_fill_35 ?_
  refine lv_if_eq (tgt := 47) hx hb d_Mo_fill_38 (by decide) (fun c38 => ?_) (fun c38 => absurd (show bI false = 0 by decide) c38)
  refine lv_aload_n hx hb d_Mo_fill_47 rfl (lv_at hl 0 rfl) ?_
  refine nw_get (D := D) (ci := 5) (C := R_Mo) (T := T_Mo) (N := 16) hx hb hts in_Mo hown hK.k hP (i := 0) (by decide) md_0 rfl 3 (by decide) (hts _ kf_Mo_49) rfl d_Mo_fill_48 ?_
  refine lv_iload_n hx hb d_Mo_fill_51 rfl (lv_at hl 2 rfl) ?_
  refine lv_iadd hx hb d_Mo_fill_52 ?_
  refine lv_eqi (nI_add _ _) ?_
  refine lv_sipush (v := nI 1060) hx hb d_Mo_fill_53 (by decide) ?_
  refine lv_icmp_le (tgt := 65) hx hb d_Mo_fill_56 (by decide) (fun c56 => absurd c56 (fun z => absurd ((nI_leI (by omega) (by omega)).mp z) (by omega))) (fun c56 => ?_)
  refine lv_aload_n hx hb d_Mo_fill_59 rfl (lv_at hl 0 rfl) ?_
  refine lv_iconst (v := nI 3) hx hb d_Mo_fill_60 (by decide) ?_
  refine call_I (As := [.int (nI 3)]) (rest := []) F hK (c_Mo_fail l D cy ad 0 tn cp cb bn fo false w tp we be co fi ro lg op 3) km_Mo_45 ki_Mo_fail ks_Mo_fail k0_Mo kc_Mo_fail kd_Mo_fail ⟨Nat.le_of_ble_eq_true rfl, Nat.le_of_ble_eq_true rfl⟩ (nw_recv hK.k hP (i := 0) (by decide) md_0 rfl) (hP) (hI) hl.1 rfl (Nat.le_of_ble_eq_true rfl) d_Mo_fill_61 ⟨(Nat.le_of_ble_eq_true rfl), (Nat.le_of_ble_eq_true rfl)⟩ hS (na_le hS) (fun H1 locs1 hP1 hk1 hS => ?_)
  have hP : nw D vcl PM ad (mdC cy ad 3 false tp tn w cp cb we be lg co fi bn op ro fo) H1 := hP1
  generalize H1 = H at hP hS ⊢
  exact end_I F hr hlk rfl hP hS d_Mo_fill_64
set_option maxRecDepth 100000 in
set_option maxHeartbeats 4000000 in
theorem c_Mo_fill0 (l : Launch) (D : va_G) (cy : Nat → ClassId) (ad : Nat → Nat) (fl tn cp cb bn fo : Nat) (dn w : Bool) (tp we be co fi ro : Nat → Nat) (lg : Nat → Bool) (op : Option Nat) (v n : Nat) (hv : v ≤ 255) (hn1 : 1 ≤ n) (hn2 : n ≤ 1000) (h : tn + n ≤ 1060) : mtI l y_Mo_fill b_Mo_fill 4 (some .int) RM D cy [.ref (ad 0), .int (nI v), .int (nI n)] PM ad (mdC cy ad fl false tp tn w cp cb we be lg co fi bn op ro fo) (mdC cy ad 0 false (upN tp tn (fun _ => v) n) (tn + n) w cp cb we be lg co fi bn op ro fo) (nI (tn + n)) := by
  intro sz
  refine nm_ofW (cc := b_Mo_fill) (maxL := 4) (ret := (some .int)) (own := R_Mo) (by decide) (Nat.le_of_ble_eq_true rfl) rfl ?_
  intro p e s m below meth c ls F hr hlk hnm hv hl
  obtain ⟨hx, hb, hml, hown, hts⟩ := id F
  obtain ⟨rfl, hP, hK, hI⟩ := hv
  have hD : nd (na PM ad s.heap.size) PM ad := nd_self hI
  have hA : ∀ q, s.heap.size ≤ q → na PM ad s.heap.size q := fun q h => Or.inr h
  have hS : va_S (na PM ad s.heap.size) s.heap s.heap [] := va_S.rf
  have hl : lv_has ls 4 [(0, .ref (ad 0)), (1, .int (nI v)), (2, .int (nI n))] := hl
  refine lv_aload_n hx hb d_Mo_fill_0 rfl (lv_at hl 0 rfl) ?_
  refine lv_iconst (v := nI 0) hx hb d_Mo_fill_1 (by decide) ?_
  refine nw_put (D := D) (ci := 5) (C := R_Mo) (T := T_Mo) (N := 16) hx hb hts in_Mo ty_Mo tk_Mo nm_Mo hown hK.k hP hD hS (i := 0) (by decide) md_0 rfl 0 (by decide) (hts _ kf_Mo_38) rfl rfl rfl (Nat.le_of_ble_eq_true rfl) d_Mo_fill_2 (fun H locs hP hS hz hq => ?_)
  have hP : nw D vcl PM ad (mdC cy ad 0 false tp tn w cp cb we be lg co fi bn op ro fo) H := nw_congr hP (mdu_fl)
  refine lv_iload_n hx hb d_Mo_fill_5 rfl (lv_at hl 1 rfl) ?_
  refine lv_if_lt (tgt := 28) hx hb d_Mo_fill_6 (by decide) (fun c6 => absurd c6 (nI_pos (by omega))) (fun c6 => ?_)
  refine lv_iload_n hx hb d_Mo_fill_9 rfl (lv_at hl 1 rfl) ?_
  refine lv_sipush (v := nI 255) hx hb d_Mo_fill_10 (by decide) ?_
  refine lv_icmp_gt (tgt := 28) hx hb d_Mo_fill_13 (by decide) (fun c13 => absurd c13 (fun z => absurd ((nI_ltI (by omega) (by omega)).mp z) (by omega))) (fun c13 => ?_)
  refine lv_iload_n hx hb d_Mo_fill_16 rfl (lv_at hl 2 rfl) ?_
  refine lv_iconst (v := nI 1) hx hb d_Mo_fill_17 (by decide) ?_
  refine lv_icmp_lt (tgt := 28) hx hb d_Mo_fill_18 (by decide) (fun c18 => absurd c18 (fun z => absurd ((nI_ltI (by omega) (by omega)).mp z) (by omega))) (fun c18 => ?_)
  refine lv_iload_n hx hb d_Mo_fill_21 rfl (lv_at hl 2 rfl) ?_
  refine lv_sipush (v := nI 1000) hx hb d_Mo_fill_22 (by decide) ?_
  refine lv_icmp_le (tgt := 34) hx hb d_Mo_fill_25 (by decide) (fun c25 => ?_) (fun c25 => absurd ((nI_leI (by omega) (by omega)).mpr (by omega)) c25)
  refine lv_aload_n hx hb d_Mo_fill_34 rfl (lv_at hl 0 rfl) ?_
  refine nw_get (D := D) (ci := 5) (C := R_Mo) (T := T_Mo) (N := 16) hx hb hts in_Mo hown hK.k hP (i := 0) (by decide) md_0 rfl 1 (by decide) (hts _ kf_Mo_41) rfl d_Mo_fill_35 ?_
  refine lv_if_eq (tgt := 47) hx hb d_Mo_fill_38 (by decide) (fun c38 => ?_) (fun c38 => absurd (show bI false = 0 by decide) c38)
  refine lv_aload_n hx hb d_Mo_fill_47 rfl (lv_at hl 0 rfl) ?_
  refine nw_get (D := D) (ci := 5) (C := R_Mo) (T := T_Mo) (N := 16) hx hb hts in_Mo hown hK.k hP (i := 0) (by decide) md_0 rfl 3 (by decide) (hts _ kf_Mo_49) rfl d_Mo_fill_48 ?_
  refine lv_iload_n hx hb d_Mo_fill_51 rfl (lv_at hl 2 rfl) ?_
  refine lv_iadd hx hb d_Mo_fill_52 ?_
  refine lv_eqi (nI_add _ _) ?_
  refine lv_sipush (v := nI 1060) hx hb d_Mo_fill_53 (by decide) ?_
  refine lv_icmp_le (tgt := 65) hx hb d_Mo_fill_56 (by decide) (fun c56 => ?_) (fun c56 => absurd ((nI_leI (by omega) (by omega)).mpr (by omega)) c56)
  refine lv_iconst (v := nI 0) hx hb d_Mo_fill_65 (by decide) ?_
  refine lv_istore_n (lv' := [(3, .int (nI 0)), (0, .ref (ad 0)), (1, .int (nI v)), (2, .int (nI n))]) hx hb d_Mo_fill_66 rfl hl (by decide) rfl (fun ls hl => ?_)
  have hP : nw D vcl PM ad (mdC cy ad 0 false (upN tp tn (fun _ => v) 0) tn w cp cb we be lg co fi bn op ro fo) H := hP
  have loop : ∀ (j i : Nat), i + j = n → ∀ (H : Heap) (locs : List Loc) (ls : Array Slot), nw D vcl PM ad (mdC cy ad 0 false (upN tp tn (fun _ => v) i) tn w cp cb we be lg co fi bn op ro fo) H → va_S (na PM ad s.heap.size) s.heap H locs → lv_has ls 4 [(3, .int (nI i)), (0, .ref (ad 0)), (1, .int (nI v)), (2, .int (nI n))] → W p l e RM s m [.ref (ad 0), .int (nI v), .int (nI n)].toArray below meth c H locs 0 0 (MQ below (va_Qi (fun r' (_ : Unit) => r' = nI (tn + n)) (fun _ t => nw D vcl PM ad (mdC cy ad 0 false (upN tp tn (fun _ => v) n) (tn + n) w cp cb we be lg co fi bn op ro fo) t.heap) (na PM ad s.heap.size)) [.ref (ad 0), .int (nI v), .int (nI n)].toArray s 0 0 (na PM ad s.heap.size)) (F0 m 67 ls []) := by
    intro j
    induction j with
    | zero =>
      intro i hi H locs ls hP hS hl
      obtain rfl : i = n := by omega
      refine lv_iload_n hx hb d_Mo_fill_67 rfl (lv_at hl 0 rfl) ?_
      refine lv_iload_n hx hb d_Mo_fill_68 rfl (lv_at hl 3 rfl) ?_
      refine lv_icmp_ge (tgt := 91) hx hb d_Mo_fill_69 (by decide) (fun c69 => ?_) (fun c69 => absurd ((nI_leI (by omega) (by omega)).mpr (by omega)) c69)
      refine lv_aload_n hx hb d_Mo_fill_91 rfl (lv_at hl 1 rfl) ?_
      refine lv_dup hx hb d_Mo_fill_92 rfl ?_
      refine nw_get (D := D) (ci := 5) (C := R_Mo) (T := T_Mo) (N := 16) hx hb hts in_Mo hown hK.k hP (i := 0) (by decide) md_0 rfl 3 (by decide) (hts _ kf_Mo_49) rfl d_Mo_fill_93 ?_
      refine lv_iload_n hx hb d_Mo_fill_96 rfl (lv_at hl 3 rfl) ?_
      refine lv_iadd hx hb d_Mo_fill_97 ?_
      refine lv_eqi (nI_add _ _) ?_
      refine nw_put (D := D) (ci := 5) (C := R_Mo) (T := T_Mo) (N := 16) hx hb hts in_Mo ty_Mo tk_Mo nm_Mo hown hK.k hP hD hS (i := 0) (by decide) md_0 rfl 3 (by decide) (hts _ kf_Mo_49) rfl rfl rfl (Nat.le_of_ble_eq_true rfl) d_Mo_fill_98 (fun H locs hP hS hz hq => ?_)
      have hP : nw D vcl PM ad (mdC cy ad 0 false (upN tp tn (fun _ => v) i) (tn + i) w cp cb we be lg co fi bn op ro fo) H := nw_congr hP (mdu_tn)
      refine lv_aload_n hx hb d_Mo_fill_101 rfl (lv_at hl 1 rfl) ?_
      refine nw_get (D := D) (ci := 5) (C := R_Mo) (T := T_Mo) (N := 16) hx hb hts in_Mo hown hK.k hP (i := 0) (by decide) md_0 rfl 3 (by decide) (hts _ kf_Mo_49) rfl d_Mo_fill_102 ?_
      exact end_I F hr hlk rfl hP hS d_Mo_fill_105
    | succ j ih =>
      intro i hi H locs ls hP hS hl
      refine lv_iload_n hx hb d_Mo_fill_67 rfl (lv_at hl 0 rfl) ?_
      refine lv_iload_n hx hb d_Mo_fill_68 rfl (lv_at hl 3 rfl) ?_
      refine lv_icmp_ge (tgt := 91) hx hb d_Mo_fill_69 (by decide) (fun c69 => absurd c69 (fun z => absurd ((nI_leI (by omega) (by omega)).mp z) (by omega))) (fun c69 => ?_)
      refine lv_aload_n hx hb d_Mo_fill_72 rfl (lv_at hl 1 rfl) ?_
      refine nw_get (D := D) (ci := 5) (C := R_Mo) (T := T_Mo) (N := 16) hx hb hts in_Mo hown hK.k hP (i := 0) (by decide) md_0 rfl 2 (by decide) (hts _ kf_Mo_7) rfl d_Mo_fill_73 ?_
      refine lv_aload_n hx hb d_Mo_fill_76 rfl (lv_at hl 1 rfl) ?_
      refine nw_get (D := D) (ci := 5) (C := R_Mo) (T := T_Mo) (N := 16) hx hb hts in_Mo hown hK.k hP (i := 0) (by decide) md_0 rfl 3 (by decide) (hts _ kf_Mo_49) rfl d_Mo_fill_77 ?_
      refine lv_iload_n hx hb d_Mo_fill_80 rfl (lv_at hl 0 rfl) ?_
      refine lv_iadd hx hb d_Mo_fill_81 ?_
      refine lv_eqi (nI_add _ _) ?_
      refine lv_iload_n hx hb d_Mo_fill_82 rfl (lv_at hl 2 rfl) ?_
      refine lv_i2b hx hb d_Mo_fill_83 rfl ?_
      refine nw_bast hx hb hK.k hP hD hS (i := 1) (by decide) md_1 0 rfl (vp_in_nI (by omega) (by omega)) d_Mo_fill_84 (fun H locs hP hS hz hq => ?_)
      rw [nI_clamp (by omega), sb_na, show bof (nI v) = v by rw [bof_nI (by omega)]; omega, by_upd] at hP
      have hP : nw D vcl PM ad (mdC cy ad 0 false (upN tp tn (fun _ => v) (i + 1)) tn w cp cb we be lg co fi bn op ro fo) H := nw_congr hP (mdu_tp)
      refine lv_iinc (v := nI (i + 1)) (lv' := [(3, .int (nI (i + 1))), (0, .ref (ad 0)), (1, .int (nI v)), (2, .int (nI n))]) hx hb d_Mo_fill_85 hl (k := 0) rfl (nI_inc _) (by decide) rfl (fun ls hl => ?_)
      refine lv_goto (tgt := 67) hx hb d_Mo_fill_88 (by decide) ?_
      exact ih (i + 1) (by omega) _ _ _ hP hS (lv_sub hl [0, 1, 2, 3] rfl)
  exact loop n 0 (by omega) _ _ _ hP hS (lv_sub hl [0, 1, 2, 3] rfl)
set_option maxRecDepth 100000 in
set_option maxHeartbeats 4000000 in
theorem c_Mo_end1 (l : Launch) (D : va_G) (cy : Nat → ClassId) (ad : Nat → Nat) (fl tn cp cb bn fo : Nat) (dn w : Bool) (tp we be co fi ro : Nat → Nat) (lg : Nat → Bool) (op : Option Nat) (x : Int32) (h : x < nI 0 ∨ nI tn < x) : mtI l y_Mo_end b_Mo_end 2 (some .int) RM D cy [.ref (ad 0), .int (x)] PM ad (mdC cy ad fl dn tp tn w cp cb we be lg co fi bn op ro fo) (mdC cy ad 1 dn tp tn w cp cb we be lg co fi bn op ro fo) (nI 0) := by
  intro sz
  refine nm_ofW (cc := b_Mo_end) (maxL := 2) (ret := (some .int)) (own := R_Mo) (by decide) (Nat.le_of_ble_eq_true rfl) rfl ?_
  intro p e s m below meth c ls F hr hlk hnm hv hl
  obtain ⟨hx, hb, hml, hown, hts⟩ := id F
  obtain ⟨rfl, hP, hK, hI⟩ := hv
  have hD : nd (na PM ad s.heap.size) PM ad := nd_self hI
  have hA : ∀ q, s.heap.size ≤ q → na PM ad s.heap.size q := fun q h => Or.inr h
  have hS : va_S (na PM ad s.heap.size) s.heap s.heap [] := va_S.rf
  have hl : lv_has ls 2 [(0, .ref (ad 0)), (1, .int (x))] := hl
  refine lv_aload_n hx hb d_Mo_end_0 rfl (lv_at hl 0 rfl) ?_
  refine lv_iconst (v := nI 0) hx hb d_Mo_end_1 (by decide) ?_
  refine nw_put (D := D) (ci := 5) (C := R_Mo) (T := T_Mo) (N := 16) hx hb hts in_Mo ty_Mo tk_Mo nm_Mo hown hK.k hP hD hS (i := 0) (by decide) md_0 rfl 0 (by decide) (hts _ kf_Mo_38) rfl rfl rfl (Nat.le_of_ble_eq_true rfl) d_Mo_end_2 (fun H locs hP hS hz hq => ?_)
  have hP : nw D vcl PM ad (mdC cy ad 0 dn tp tn w cp cb we be lg co fi bn op ro fo) H := nw_congr hP (mdu_fl)
  refine lv_iload_n hx hb d_Mo_end_5 rfl (lv_at hl 1 rfl) ?_
  refine lv_if_lt (tgt := 17) hx hb d_Mo_end_6 (by decide) (fun c6 => ?_) (fun c6 => ?_)
  · refine lv_aload_n hx hb d_Mo_end_17 rfl (lv_at hl 0 rfl) ?_
    refine lv_iconst (v := nI 1) hx hb d_Mo_end_18 (by decide) ?_
    refine call_I (As := [.int (nI 1)]) (rest := []) F hK (c_Mo_fail l D cy ad 0 tn cp cb bn fo dn w tp we be co fi ro lg op 1) km_Mo_45 ki_Mo_fail ks_Mo_fail k0_Mo kc_Mo_fail kd_Mo_fail ⟨Nat.le_of_ble_eq_true rfl, Nat.le_of_ble_eq_true rfl⟩ (nw_recv hK.k hP (i := 0) (by decide) md_0 rfl) (hP) (hI) hl.1 rfl (Nat.le_of_ble_eq_true rfl) d_Mo_end_19 ⟨(Nat.le_of_ble_eq_true rfl), (Nat.le_of_ble_eq_true rfl)⟩ hS (na_le hS) (fun H1 locs1 hP1 hk1 hS => ?_)
    have hP : nw D vcl PM ad (mdC cy ad 1 dn tp tn w cp cb we be lg co fi bn op ro fo) H1 := hP1
    generalize H1 = H at hP hS ⊢
    exact end_I F hr hlk rfl hP hS d_Mo_end_22
  · refine lv_iload_n hx hb d_Mo_end_9 rfl (lv_at hl 1 rfl) ?_
    refine lv_aload_n hx hb d_Mo_end_10 rfl (lv_at hl 0 rfl) ?_
    refine nw_get (D := D) (ci := 5) (C := R_Mo) (T := T_Mo) (N := 16) hx hb hts in_Mo hown hK.k hP (i := 0) (by decide) md_0 rfl 3 (by decide) (hts _ kf_Mo_49) rfl d_Mo_end_11 ?_
    refine lv_icmp_le (tgt := 23) hx hb d_Mo_end_14 (by decide) (fun c14 => absurd c14 (fun z => absurd (h.resolve_left c6) (Int32.not_lt.mpr z))) (fun c14 => ?_)
    refine lv_aload_n hx hb d_Mo_end_17 rfl (lv_at hl 0 rfl) ?_
    refine lv_iconst (v := nI 1) hx hb d_Mo_end_18 (by decide) ?_
    refine call_I (As := [.int (nI 1)]) (rest := []) F hK (c_Mo_fail l D cy ad 0 tn cp cb bn fo dn w tp we be co fi ro lg op 1) km_Mo_45 ki_Mo_fail ks_Mo_fail k0_Mo kc_Mo_fail kd_Mo_fail ⟨Nat.le_of_ble_eq_true rfl, Nat.le_of_ble_eq_true rfl⟩ (nw_recv hK.k hP (i := 0) (by decide) md_0 rfl) (hP) (hI) hl.1 rfl (Nat.le_of_ble_eq_true rfl) d_Mo_end_19 ⟨(Nat.le_of_ble_eq_true rfl), (Nat.le_of_ble_eq_true rfl)⟩ hS (na_le hS) (fun H1 locs1 hP1 hk1 hS => ?_)
    have hP : nw D vcl PM ad (mdC cy ad 1 dn tp tn w cp cb we be lg co fi bn op ro fo) H1 := hP1
    generalize H1 = H at hP hS ⊢
    exact end_I F hr hlk rfl hP hS d_Mo_end_22
set_option maxRecDepth 100000 in
set_option maxHeartbeats 4000000 in
theorem c_Mo_end2 (l : Launch) (D : va_G) (cy : Nat → ClassId) (ad : Nat → Nat) (fl tn cp cb bn fo : Nat) (dn w : Bool) (tp we be co fi ro : Nat → Nat) (lg : Nat → Bool) (op : Option Nat) (n : Nat) (hn : n ≤ tn) (htn : tn ≤ 1060) : mtI l y_Mo_end b_Mo_end 2 (some .int) RM D cy [.ref (ad 0), .int (nI n)] PM ad (mdC cy ad fl true tp tn w cp cb we be lg co fi bn op ro fo) (mdC cy ad 2 true tp tn w cp cb we be lg co fi bn op ro fo) (nI 0) := by
  intro sz
  refine nm_ofW (cc := b_Mo_end) (maxL := 2) (ret := (some .int)) (own := R_Mo) (by decide) (Nat.le_of_ble_eq_true rfl) rfl ?_
  intro p e s m below meth c ls F hr hlk hnm hv hl
  obtain ⟨hx, hb, hml, hown, hts⟩ := id F
  obtain ⟨rfl, hP, hK, hI⟩ := hv
  have hD : nd (na PM ad s.heap.size) PM ad := nd_self hI
  have hA : ∀ q, s.heap.size ≤ q → na PM ad s.heap.size q := fun q h => Or.inr h
  have hS : va_S (na PM ad s.heap.size) s.heap s.heap [] := va_S.rf
  have hl : lv_has ls 2 [(0, .ref (ad 0)), (1, .int (nI n))] := hl
  refine lv_aload_n hx hb d_Mo_end_0 rfl (lv_at hl 0 rfl) ?_
  refine lv_iconst (v := nI 0) hx hb d_Mo_end_1 (by decide) ?_
  refine nw_put (D := D) (ci := 5) (C := R_Mo) (T := T_Mo) (N := 16) hx hb hts in_Mo ty_Mo tk_Mo nm_Mo hown hK.k hP hD hS (i := 0) (by decide) md_0 rfl 0 (by decide) (hts _ kf_Mo_38) rfl rfl rfl (Nat.le_of_ble_eq_true rfl) d_Mo_end_2 (fun H locs hP hS hz hq => ?_)
  have hP : nw D vcl PM ad (mdC cy ad 0 true tp tn w cp cb we be lg co fi bn op ro fo) H := nw_congr hP (mdu_fl)
  refine lv_iload_n hx hb d_Mo_end_5 rfl (lv_at hl 1 rfl) ?_
  refine lv_if_lt (tgt := 17) hx hb d_Mo_end_6 (by decide) (fun c6 => absurd c6 (nI_pos (by omega))) (fun c6 => ?_)
  refine lv_iload_n hx hb d_Mo_end_9 rfl (lv_at hl 1 rfl) ?_
  refine lv_aload_n hx hb d_Mo_end_10 rfl (lv_at hl 0 rfl) ?_
  refine nw_get (D := D) (ci := 5) (C := R_Mo) (T := T_Mo) (N := 16) hx hb hts in_Mo hown hK.k hP (i := 0) (by decide) md_0 rfl 3 (by decide) (hts _ kf_Mo_49) rfl d_Mo_end_11 ?_
  refine lv_icmp_le (tgt := 23) hx hb d_Mo_end_14 (by decide) (fun c14 => ?_) (fun c14 => absurd ((nI_leI (by omega) (by omega)).mpr (by omega)) c14)
  refine lv_aload_n hx hb d_Mo_end_23 rfl (lv_at hl 0 rfl) ?_
  refine nw_get (D := D) (ci := 5) (C := R_Mo) (T := T_Mo) (N := 16) hx hb hts in_Mo hown hK.k hP (i := 0) (by decide) md_0 rfl 1 (by decide) (hts _ kf_Mo_41) rfl d_Mo_end_24 ?_
  refine lv_if_eq (tgt := 36) hx hb d_Mo_end_27 (by decide) (fun c27 => absurd c27 (show ¬ bI true = 0 by decide)) (fun c27 => ?_)
  refine lv_aload_n hx hb d_Mo_end_30 rfl (lv_at hl 0 rfl) ?_
  refine lv_iconst (v := nI 2) hx hb d_Mo_end_31 (by decide) ?_
  refine call_I (As := [.int (nI 2)]) (rest := []) F hK (c_Mo_fail l D cy ad 0 tn cp cb bn fo true w tp we be co fi ro lg op 2) km_Mo_45 ki_Mo_fail ks_Mo_fail k0_Mo kc_Mo_fail kd_Mo_fail ⟨Nat.le_of_ble_eq_true rfl, Nat.le_of_ble_eq_true rfl⟩ (nw_recv hK.k hP (i := 0) (by decide) md_0 rfl) (hP) (hI) hl.1 rfl (Nat.le_of_ble_eq_true rfl) d_Mo_end_32 ⟨(Nat.le_of_ble_eq_true rfl), (Nat.le_of_ble_eq_true rfl)⟩ hS (na_le hS) (fun H1 locs1 hP1 hk1 hS => ?_)
  have hP : nw D vcl PM ad (mdC cy ad 2 true tp tn w cp cb we be lg co fi bn op ro fo) H1 := hP1
  generalize H1 = H at hP hS ⊢
  exact end_I F hr hlk rfl hP hS d_Mo_end_35
set_option maxRecDepth 100000 in
set_option maxHeartbeats 4000000 in
theorem c_Mo_end0 (l : Launch) (D : va_G) (cy : Nat → ClassId) (ad : Nat → Nat) (fl tn cp cb bn fo : Nat) (dn w : Bool) (tp we be co fi ro : Nat → Nat) (lg : Nat → Bool) (op : Option Nat) (n : Nat) (hn : n ≤ tn) (htn : tn ≤ 1060) : mtI l y_Mo_end b_Mo_end 2 (some .int) RM D cy [.ref (ad 0), .int (nI n)] PM ad (mdC cy ad fl false tp tn w cp cb we be lg co fi bn op ro fo) (mdC cy ad 0 false tp n w cp cb we be lg co fi bn op ro fo) (nI n) := by
  intro sz
  refine nm_ofW (cc := b_Mo_end) (maxL := 2) (ret := (some .int)) (own := R_Mo) (by decide) (Nat.le_of_ble_eq_true rfl) rfl ?_
  intro p e s m below meth c ls F hr hlk hnm hv hl
  obtain ⟨hx, hb, hml, hown, hts⟩ := id F
  obtain ⟨rfl, hP, hK, hI⟩ := hv
  have hD : nd (na PM ad s.heap.size) PM ad := nd_self hI
  have hA : ∀ q, s.heap.size ≤ q → na PM ad s.heap.size q := fun q h => Or.inr h
  have hS : va_S (na PM ad s.heap.size) s.heap s.heap [] := va_S.rf
  have hl : lv_has ls 2 [(0, .ref (ad 0)), (1, .int (nI n))] := hl
  refine lv_aload_n hx hb d_Mo_end_0 rfl (lv_at hl 0 rfl) ?_
  refine lv_iconst (v := nI 0) hx hb d_Mo_end_1 (by decide) ?_
  refine nw_put (D := D) (ci := 5) (C := R_Mo) (T := T_Mo) (N := 16) hx hb hts in_Mo ty_Mo tk_Mo nm_Mo hown hK.k hP hD hS (i := 0) (by decide) md_0 rfl 0 (by decide) (hts _ kf_Mo_38) rfl rfl rfl (Nat.le_of_ble_eq_true rfl) d_Mo_end_2 (fun H locs hP hS hz hq => ?_)
  have hP : nw D vcl PM ad (mdC cy ad 0 false tp tn w cp cb we be lg co fi bn op ro fo) H := nw_congr hP (mdu_fl)
  refine lv_iload_n hx hb d_Mo_end_5 rfl (lv_at hl 1 rfl) ?_
  refine lv_if_lt (tgt := 17) hx hb d_Mo_end_6 (by decide) (fun c6 => absurd c6 (nI_pos (by omega))) (fun c6 => ?_)
  refine lv_iload_n hx hb d_Mo_end_9 rfl (lv_at hl 1 rfl) ?_
  refine lv_aload_n hx hb d_Mo_end_10 rfl (lv_at hl 0 rfl) ?_
  refine nw_get (D := D) (ci := 5) (C := R_Mo) (T := T_Mo) (N := 16) hx hb hts in_Mo hown hK.k hP (i := 0) (by decide) md_0 rfl 3 (by decide) (hts _ kf_Mo_49) rfl d_Mo_end_11 ?_
  refine lv_icmp_le (tgt := 23) hx hb d_Mo_end_14 (by decide) (fun c14 => ?_) (fun c14 => absurd ((nI_leI (by omega) (by omega)).mpr (by omega)) c14)
  refine lv_aload_n hx hb d_Mo_end_23 rfl (lv_at hl 0 rfl) ?_
  refine nw_get (D := D) (ci := 5) (C := R_Mo) (T := T_Mo) (N := 16) hx hb hts in_Mo hown hK.k hP (i := 0) (by decide) md_0 rfl 1 (by decide) (hts _ kf_Mo_41) rfl d_Mo_end_24 ?_
  refine lv_if_eq (tgt := 36) hx hb d_Mo_end_27 (by decide) (fun c27 => ?_) (fun c27 => absurd (show bI false = 0 by decide) c27)
  refine lv_aload_n hx hb d_Mo_end_36 rfl (lv_at hl 0 rfl) ?_
  refine lv_iload_n hx hb d_Mo_end_37 rfl (lv_at hl 1 rfl) ?_
  refine nw_put (D := D) (ci := 5) (C := R_Mo) (T := T_Mo) (N := 16) hx hb hts in_Mo ty_Mo tk_Mo nm_Mo hown hK.k hP hD hS (i := 0) (by decide) md_0 rfl 3 (by decide) (hts _ kf_Mo_49) rfl rfl rfl (Nat.le_of_ble_eq_true rfl) d_Mo_end_38 (fun H locs hP hS hz hq => ?_)
  have hP : nw D vcl PM ad (mdC cy ad 0 false tp n w cp cb we be lg co fi bn op ro fo) H := nw_congr hP (mdu_tn)
  refine lv_iload_n hx hb d_Mo_end_41 rfl (lv_at hl 1 rfl) ?_
  exact end_I F hr hlk rfl hP hS d_Mo_end_42
set_option maxRecDepth 100000 in
set_option maxHeartbeats 4000000 in
theorem c_Mo_cut1 (l : Launch) (D : va_G) (cy : Nat → ClassId) (ad : Nat → Nat) (fl tn cp cb bn fo : Nat) (dn w : Bool) (tp we be co fi ro : Nat → Nat) (lg : Nat → Bool) (op : Option Nat) (x y : Int32) (h : x < 0 ∨ y < 0) : mtI l y_Mo_cut b_Mo_cut 4 (some .int) RM D cy [.ref (ad 0), .int (x), .int (y)] PM ad (mdC cy ad fl dn tp tn w cp cb we be lg co fi bn op ro fo) (mdC cy ad 1 dn tp tn w cp cb we be lg co fi bn op ro fo) (nI 0) := by
  intro sz
  refine nm_ofW (cc := b_Mo_cut) (maxL := 4) (ret := (some .int)) (own := R_Mo) (by decide) (Nat.le_of_ble_eq_true rfl) rfl ?_
  intro p e s m below meth c ls F hr hlk hnm hv hl
  obtain ⟨hx, hb, hml, hown, hts⟩ := id F
  obtain ⟨rfl, hP, hK, hI⟩ := hv
  have hD : nd (na PM ad s.heap.size) PM ad := nd_self hI
  have hA : ∀ q, s.heap.size ≤ q → na PM ad s.heap.size q := fun q h => Or.inr h
  have hS : va_S (na PM ad s.heap.size) s.heap s.heap [] := va_S.rf
  have hl : lv_has ls 4 [(0, .ref (ad 0)), (1, .int (x)), (2, .int (y))] := hl
  refine lv_aload_n hx hb d_Mo_cut_0 rfl (lv_at hl 0 rfl) ?_
  refine lv_iconst (v := nI 0) hx hb d_Mo_cut_1 (by decide) ?_
  refine nw_put (D := D) (ci := 5) (C := R_Mo) (T := T_Mo) (N := 16) hx hb hts in_Mo ty_Mo tk_Mo nm_Mo hown hK.k hP hD hS (i := 0) (by decide) md_0 rfl 0 (by decide) (hts _ kf_Mo_38) rfl rfl rfl (Nat.le_of_ble_eq_true rfl) d_Mo_cut_2 (fun H locs hP hS hz hq => ?_)
  have hP : nw D vcl PM ad (mdC cy ad 0 dn tp tn w cp cb we be lg co fi bn op ro fo) H := nw_congr hP (mdu_fl)
  refine lv_iload_n hx hb d_Mo_cut_5 rfl (lv_at hl 1 rfl) ?_
  refine lv_if_lt (tgt := 13) hx hb d_Mo_cut_6 (by decide) (fun c6 => ?_) (fun c6 => ?_)
  · refine lv_aload_n hx hb d_Mo_cut_13 rfl (lv_at hl 0 rfl) ?_
    refine lv_iconst (v := nI 1) hx hb d_Mo_cut_14 (by decide) ?_
    refine call_I (As := [.int (nI 1)]) (rest := []) F hK (c_Mo_fail l D cy ad 0 tn cp cb bn fo dn w tp we be co fi ro lg op 1) km_Mo_45 ki_Mo_fail ks_Mo_fail k0_Mo kc_Mo_fail kd_Mo_fail ⟨Nat.le_of_ble_eq_true rfl, Nat.le_of_ble_eq_true rfl⟩ (nw_recv hK.k hP (i := 0) (by decide) md_0 rfl) (hP) (hI) hl.1 rfl (Nat.le_of_ble_eq_true rfl) d_Mo_cut_15 ⟨(Nat.le_of_ble_eq_true rfl), (Nat.le_of_ble_eq_true rfl)⟩ hS (na_le hS) (fun H1 locs1 hP1 hk1 hS => ?_)
    have hP : nw D vcl PM ad (mdC cy ad 1 dn tp tn w cp cb we be lg co fi bn op ro fo) H1 := hP1
    generalize H1 = H at hP hS ⊢
    exact end_I F hr hlk rfl hP hS d_Mo_cut_18
  · refine lv_iload_n hx hb d_Mo_cut_9 rfl (lv_at hl 2 rfl) ?_
    refine lv_if_ge (tgt := 19) hx hb d_Mo_cut_10 (by decide) (fun c10 => absurd c10 (fun z => absurd (h.resolve_left c6) (Int32.not_lt.mpr z))) (fun c10 => ?_)
    refine lv_aload_n hx hb d_Mo_cut_13 rfl (lv_at hl 0 rfl) ?_
    refine lv_iconst (v := nI 1) hx hb d_Mo_cut_14 (by decide) ?_
    refine call_I (As := [.int (nI 1)]) (rest := []) F hK (c_Mo_fail l D cy ad 0 tn cp cb bn fo dn w tp we be co fi ro lg op 1) km_Mo_45 ki_Mo_fail ks_Mo_fail k0_Mo kc_Mo_fail kd_Mo_fail ⟨Nat.le_of_ble_eq_true rfl, Nat.le_of_ble_eq_true rfl⟩ (nw_recv hK.k hP (i := 0) (by decide) md_0 rfl) (hP) (hI) hl.1 rfl (Nat.le_of_ble_eq_true rfl) d_Mo_cut_15 ⟨(Nat.le_of_ble_eq_true rfl), (Nat.le_of_ble_eq_true rfl)⟩ hS (na_le hS) (fun H1 locs1 hP1 hk1 hS => ?_)
    have hP : nw D vcl PM ad (mdC cy ad 1 dn tp tn w cp cb we be lg co fi bn op ro fo) H1 := hP1
    generalize H1 = H at hP hS ⊢
    exact end_I F hr hlk rfl hP hS d_Mo_cut_18
set_option maxRecDepth 100000 in
set_option maxHeartbeats 4000000 in
theorem c_Mo_cut0 (l : Launch) (D : va_G) (cy : Nat → ClassId) (ad : Nat → Nat) (fl tn cp cb bn fo : Nat) (dn w : Bool) (tp we be co fi ro : Nat → Nat) (lg : Nat → Bool) (op : Option Nat) (n b : Nat) (hn : n < 2 ^ 31) (hb31 : b < 2 ^ 31) : mtI l y_Mo_cut b_Mo_cut 4 (some .int) RM D cy [.ref (ad 0), .int (nI n), .int (nI b)] PM ad (mdC cy ad fl dn tp tn w cp cb we be lg co fi bn op ro fo) (mdC cy ad 0 dn tp tn true n b we be lg co fi bn op ro fo) (bI w) := by
  intro sz
  refine nm_ofW (cc := b_Mo_cut) (maxL := 4) (ret := (some .int)) (own := R_Mo) (by decide) (Nat.le_of_ble_eq_true rfl) rfl ?_
  intro p e s m below meth c ls F hr hlk hnm hv hl
  obtain ⟨hx, hb, hml, hown, hts⟩ := id F
  obtain ⟨rfl, hP, hK, hI⟩ := hv
  have hD : nd (na PM ad s.heap.size) PM ad := nd_self hI
  have hA : ∀ q, s.heap.size ≤ q → na PM ad s.heap.size q := fun q h => Or.inr h
  have hS : va_S (na PM ad s.heap.size) s.heap s.heap [] := va_S.rf
  have hl : lv_has ls 4 [(0, .ref (ad 0)), (1, .int (nI n)), (2, .int (nI b))] := hl
  refine lv_aload_n hx hb d_Mo_cut_0 rfl (lv_at hl 0 rfl) ?_
  refine lv_iconst (v := nI 0) hx hb d_Mo_cut_1 (by decide) ?_
  refine nw_put (D := D) (ci := 5) (C := R_Mo) (T := T_Mo) (N := 16) hx hb hts in_Mo ty_Mo tk_Mo nm_Mo hown hK.k hP hD hS (i := 0) (by decide) md_0 rfl 0 (by decide) (hts _ kf_Mo_38) rfl rfl rfl (Nat.le_of_ble_eq_true rfl) d_Mo_cut_2 (fun H locs hP hS hz hq => ?_)
  have hP : nw D vcl PM ad (mdC cy ad 0 dn tp tn w cp cb we be lg co fi bn op ro fo) H := nw_congr hP (mdu_fl)
  refine lv_iload_n hx hb d_Mo_cut_5 rfl (lv_at hl 1 rfl) ?_
  refine lv_if_lt (tgt := 13) hx hb d_Mo_cut_6 (by decide) (fun c6 => absurd c6 (nI_pos (by omega))) (fun c6 => ?_)
  refine lv_iload_n hx hb d_Mo_cut_9 rfl (lv_at hl 2 rfl) ?_
  refine lv_if_ge (tgt := 19) hx hb d_Mo_cut_10 (by decide) (fun c10 => ?_) (fun c10 => absurd (nI_pos' (by omega)) c10)
  refine lv_aload_n hx hb d_Mo_cut_19 rfl (lv_at hl 0 rfl) ?_
  refine nw_get (D := D) (ci := 5) (C := R_Mo) (T := T_Mo) (N := 16) hx hb hts in_Mo hown hK.k hP (i := 0) (by decide) md_0 rfl 4 (by decide) (hts _ kf_Mo_52) rfl d_Mo_cut_20 ?_
  refine lv_if_eq (tgt := 30) hx hb d_Mo_cut_23 (by decide) (fun c23 => ?_) (fun c23 => ?_)
  · have c23 := bI_eq0.mp c23
    refine lv_iconst (v := nI 0) hx hb d_Mo_cut_30 (by decide) ?_
    refine lv_eqi (y := bI w) (by rw [c23]; rfl) ?_
    refine lv_istore_n (lv' := [(3, .int (bI (w))), (0, .ref (ad 0)), (1, .int (nI n)), (2, .int (nI b))]) hx hb d_Mo_cut_31 rfl hl (by decide) rfl (fun ls hl => ?_)
    refine lv_aload_n hx hb d_Mo_cut_32 rfl (lv_at hl 1 rfl) ?_
    refine lv_iconst (v := bI true) hx hb d_Mo_cut_33 (by decide) ?_
    refine nw_put (D := D) (ci := 5) (C := R_Mo) (T := T_Mo) (N := 16) hx hb hts in_Mo ty_Mo tk_Mo nm_Mo hown hK.k hP hD hS (i := 0) (by decide) md_0 rfl 4 (by decide) (hts _ kf_Mo_52) rfl (bI_nar _) (bI_fit _) (Nat.le_of_ble_eq_true rfl) d_Mo_cut_34 (fun H locs hP hS hz hq => ?_)
    have hP : nw D vcl PM ad (mdC cy ad 0 dn tp tn true cp cb we be lg co fi bn op ro fo) H := nw_congr hP (mdu_w)
    refine lv_aload_n hx hb d_Mo_cut_37 rfl (lv_at hl 1 rfl) ?_
    refine lv_iload_n hx hb d_Mo_cut_38 rfl (lv_at hl 2 rfl) ?_
    refine nw_put (D := D) (ci := 5) (C := R_Mo) (T := T_Mo) (N := 16) hx hb hts in_Mo ty_Mo tk_Mo nm_Mo hown hK.k hP hD hS (i := 0) (by decide) md_0 rfl 5 (by decide) (hts _ kf_Mo_55) rfl rfl rfl (Nat.le_of_ble_eq_true rfl) d_Mo_cut_39 (fun H locs hP hS hz hq => ?_)
    have hP : nw D vcl PM ad (mdC cy ad 0 dn tp tn true n cb we be lg co fi bn op ro fo) H := nw_congr hP (mdu_cp)
    refine lv_aload_n hx hb d_Mo_cut_42 rfl (lv_at hl 1 rfl) ?_
    refine lv_iload_n hx hb d_Mo_cut_43 rfl (lv_at hl 3 rfl) ?_
    refine nw_put (D := D) (ci := 5) (C := R_Mo) (T := T_Mo) (N := 16) hx hb hts in_Mo ty_Mo tk_Mo nm_Mo hown hK.k hP hD hS (i := 0) (by decide) md_0 rfl 6 (by decide) (hts _ kf_Mo_58) rfl rfl rfl (Nat.le_of_ble_eq_true rfl) d_Mo_cut_44 (fun H locs hP hS hz hq => ?_)
    have hP : nw D vcl PM ad (mdC cy ad 0 dn tp tn true n b we be lg co fi bn op ro fo) H := nw_congr hP (mdu_cb)
    refine lv_iload_n hx hb d_Mo_cut_47 rfl (lv_at hl 0 rfl) ?_
    exact end_I F hr hlk rfl hP hS d_Mo_cut_48
  · have c23 := mt bI_eq0.mpr c23
    have c23 : w = true := by simpa using c23
    refine lv_iconst (v := nI 1) hx hb d_Mo_cut_26 (by decide) ?_
    refine lv_goto (tgt := 31) hx hb d_Mo_cut_27 (by decide) ?_
    refine lv_eqi (y := bI w) (by rw [c23]; rfl) ?_
    refine lv_istore_n (lv' := [(3, .int (bI (w))), (0, .ref (ad 0)), (1, .int (nI n)), (2, .int (nI b))]) hx hb d_Mo_cut_31 rfl hl (by decide) rfl (fun ls hl => ?_)
    refine lv_aload_n hx hb d_Mo_cut_32 rfl (lv_at hl 1 rfl) ?_
    refine lv_iconst (v := bI true) hx hb d_Mo_cut_33 (by decide) ?_
    refine nw_put (D := D) (ci := 5) (C := R_Mo) (T := T_Mo) (N := 16) hx hb hts in_Mo ty_Mo tk_Mo nm_Mo hown hK.k hP hD hS (i := 0) (by decide) md_0 rfl 4 (by decide) (hts _ kf_Mo_52) rfl (bI_nar _) (bI_fit _) (Nat.le_of_ble_eq_true rfl) d_Mo_cut_34 (fun H locs hP hS hz hq => ?_)
    have hP : nw D vcl PM ad (mdC cy ad 0 dn tp tn true cp cb we be lg co fi bn op ro fo) H := nw_congr hP (mdu_w)
    refine lv_aload_n hx hb d_Mo_cut_37 rfl (lv_at hl 1 rfl) ?_
    refine lv_iload_n hx hb d_Mo_cut_38 rfl (lv_at hl 2 rfl) ?_
    refine nw_put (D := D) (ci := 5) (C := R_Mo) (T := T_Mo) (N := 16) hx hb hts in_Mo ty_Mo tk_Mo nm_Mo hown hK.k hP hD hS (i := 0) (by decide) md_0 rfl 5 (by decide) (hts _ kf_Mo_55) rfl rfl rfl (Nat.le_of_ble_eq_true rfl) d_Mo_cut_39 (fun H locs hP hS hz hq => ?_)
    have hP : nw D vcl PM ad (mdC cy ad 0 dn tp tn true n cb we be lg co fi bn op ro fo) H := nw_congr hP (mdu_cp)
    refine lv_aload_n hx hb d_Mo_cut_42 rfl (lv_at hl 1 rfl) ?_
    refine lv_iload_n hx hb d_Mo_cut_43 rfl (lv_at hl 3 rfl) ?_
    refine nw_put (D := D) (ci := 5) (C := R_Mo) (T := T_Mo) (N := 16) hx hb hts in_Mo ty_Mo tk_Mo nm_Mo hown hK.k hP hD hS (i := 0) (by decide) md_0 rfl 6 (by decide) (hts _ kf_Mo_58) rfl rfl rfl (Nat.le_of_ble_eq_true rfl) d_Mo_cut_44 (fun H locs hP hS hz hq => ?_)
    have hP : nw D vcl PM ad (mdC cy ad 0 dn tp tn true n b we be lg co fi bn op ro fo) H := nw_congr hP (mdu_cb)
    refine lv_iload_n hx hb d_Mo_cut_47 rfl (lv_at hl 0 rfl) ?_
    exact end_I F hr hlk rfl hP hS d_Mo_cut_48
set_option maxRecDepth 100000 in
set_option maxHeartbeats 4000000 in
theorem c_Mo_mount (l : Launch) (D : va_G) (cy : Nat → ClassId) (ad : Nat → Nat) (fl tn cp cb bn fo : Nat) (dn w : Bool) (tp we be co fi ro : Nat → Nat) (lg : Nat → Bool) (op : Option Nat) (HB : ∀ b, b < 24 → be b < 2 ^ 31) (HQ : ∀ b, b < 24 → co b < 2 ^ 16) : mtI l y_Mo_mount b_Mo_mount 2 (some .int) RM D cy [.ref (ad 0)] PM ad (mdC cy ad fl dn tp tn w cp cb we be lg co fi bn op ro fo) (mdC cy ad 0 false tp 0 w cp cb we be (mtL be lg 24) co fi bn none ro fo) (nI (sumL (mtL be lg 24) co 24)) := by
  intro sz
  refine nm_ofW (cc := b_Mo_mount) (maxL := 2) (ret := (some .int)) (own := R_Mo) (by decide) (Nat.le_of_ble_eq_true rfl) rfl ?_
  intro p e s m below meth c ls F hr hlk hnm hv hl
  obtain ⟨hx, hb, hml, hown, hts⟩ := id F
  obtain ⟨rfl, hP, hK, hI⟩ := hv
  have hD : nd (na PM ad s.heap.size) PM ad := nd_self hI
  have hA : ∀ q, s.heap.size ≤ q → na PM ad s.heap.size q := fun q h => Or.inr h
  have hS : va_S (na PM ad s.heap.size) s.heap s.heap [] := va_S.rf
  have hl : lv_has ls 2 [(0, .ref (ad 0))] := hl
  refine lv_aload_n hx hb d_Mo_mount_0 rfl (lv_at hl 0 rfl) ?_
  refine lv_iconst (v := nI 0) hx hb d_Mo_mount_1 (by decide) ?_
  refine nw_put (D := D) (ci := 5) (C := R_Mo) (T := T_Mo) (N := 16) hx hb hts in_Mo ty_Mo tk_Mo nm_Mo hown hK.k hP hD hS (i := 0) (by decide) md_0 rfl 0 (by decide) (hts _ kf_Mo_38) rfl rfl rfl (Nat.le_of_ble_eq_true rfl) d_Mo_mount_2 (fun H locs hP hS hz hq => ?_)
  have hP : nw D vcl PM ad (mdC cy ad 0 dn tp tn w cp cb we be lg co fi bn op ro fo) H := nw_congr hP (mdu_fl)
  refine lv_aload_n hx hb d_Mo_mount_5 rfl (lv_at hl 0 rfl) ?_
  refine lv_iconst (v := bI false) hx hb d_Mo_mount_6 (by decide) ?_
  refine nw_put (D := D) (ci := 5) (C := R_Mo) (T := T_Mo) (N := 16) hx hb hts in_Mo ty_Mo tk_Mo nm_Mo hown hK.k hP hD hS (i := 0) (by decide) md_0 rfl 1 (by decide) (hts _ kf_Mo_41) rfl (bI_nar _) (bI_fit _) (Nat.le_of_ble_eq_true rfl) d_Mo_mount_7 (fun H locs hP hS hz hq => ?_)
  have hP : nw D vcl PM ad (mdC cy ad 0 false tp tn w cp cb we be lg co fi bn op ro fo) H := nw_congr hP (mdu_dn)
  refine lv_aload_n hx hb d_Mo_mount_10 rfl (lv_at hl 0 rfl) ?_
  refine lv_iconst (v := nI 0) hx hb d_Mo_mount_11 (by decide) ?_
  refine nw_put (D := D) (ci := 5) (C := R_Mo) (T := T_Mo) (N := 16) hx hb hts in_Mo ty_Mo tk_Mo nm_Mo hown hK.k hP hD hS (i := 0) (by decide) md_0 rfl 3 (by decide) (hts _ kf_Mo_49) rfl rfl rfl (Nat.le_of_ble_eq_true rfl) d_Mo_mount_12 (fun H locs hP hS hz hq => ?_)
  have hP : nw D vcl PM ad (mdC cy ad 0 false tp 0 w cp cb we be lg co fi bn op ro fo) H := nw_congr hP (mdu_tn)
  refine lv_aload_n hx hb d_Mo_mount_15 rfl (lv_at hl 0 rfl) ?_
  refine lv_iconst (v := -1) hx hb d_Mo_mount_16 (by decide) ?_
  refine lv_eqi (y := oI none) rfl ?_
  refine nw_put (D := D) (ci := 5) (C := R_Mo) (T := T_Mo) (N := 16) hx hb hts in_Mo ty_Mo tk_Mo nm_Mo hown hK.k hP hD hS (i := 0) (by decide) md_0 rfl 13 (by decide) (hts _ kf_Mo_30) rfl rfl rfl (Nat.le_of_ble_eq_true rfl) d_Mo_mount_17 (fun H locs hP hS hz hq => ?_)
  have hP : nw D vcl PM ad (mdC cy ad 0 false tp 0 w cp cb we be lg co fi bn none ro fo) H := nw_congr hP (mdu_op)
  refine lv_iconst (v := nI 0) hx hb d_Mo_mount_20 (by decide) ?_
  refine lv_istore_n (lv' := [(1, .int (nI 0)), (0, .ref (ad 0))]) hx hb d_Mo_mount_21 rfl hl (by decide) rfl (fun ls hl => ?_)
  have hP : nw D vcl PM ad (mdC cy ad 0 false tp 0 w cp cb we be (mtL be lg 0) co fi bn none ro fo) H := by rw [mtL_0]; exact hP
  have loop : ∀ (j i : Nat), i + j = 24 → ∀ (H : Heap) (locs : List Loc) (ls : Array Slot), nw D vcl PM ad (mdC cy ad 0 false tp 0 w cp cb we be (mtL be lg i) co fi bn none ro fo) H → va_S (na PM ad s.heap.size) s.heap H locs → lv_has ls 2 [(1, .int (nI i)), (0, .ref (ad 0))] → W p l e RM s m [.ref (ad 0)].toArray below meth c H locs 0 0 (MQ below (va_Qi (fun r' (_ : Unit) => r' = nI (sumL (mtL be lg 24) co 24)) (fun _ t => nw D vcl PM ad (mdC cy ad 0 false tp 0 w cp cb we be (mtL be lg 24) co fi bn none ro fo) t.heap) (na PM ad s.heap.size)) [.ref (ad 0)].toArray s 0 0 (na PM ad s.heap.size)) (F0 m 22 ls []) := by
    intro j
    induction j with
    | zero =>
      intro i hi H locs ls hP hS hl
      obtain rfl : i = 24 := by omega
      refine lv_iload_n hx hb d_Mo_mount_22 rfl (lv_at hl 0 rfl) ?_
      refine lv_bipush (v := nI 24) hx hb d_Mo_mount_23 (by decide) ?_
      refine lv_icmp_ge (tgt := 54) hx hb d_Mo_mount_25 (by decide) (fun c25 => ?_) (fun c25 => absurd ((nI_leI (by omega) (by omega)).mpr (by omega)) c25)
      refine lv_aload_n hx hb d_Mo_mount_54 rfl (lv_at hl 1 rfl) ?_
      refine call_R (As := []) (rest := []) F hK (c_Mo_records l D cy ad 0 0 cp cb bn fo false w tp we be co fi ro (mtL be lg 24) none HQ) km_Mo_78 ki_Mo_records ks_Mo_records k0_Mo kc_Mo_records kd_Mo_records ⟨Nat.le_of_ble_eq_true rfl, Nat.le_of_ble_eq_true rfl⟩ (nw_recv hK.k hP (i := 0) (by decide) md_0 rfl) (hP) (hI) hl.1 rfl (Nat.le_of_ble_eq_true rfl) d_Mo_mount_55 ⟨(Nat.le_of_ble_eq_true rfl), (Nat.le_of_ble_eq_true rfl)⟩ hS (fun H1 locs1 hN hS => ?_)
      have hP := hN _ _ _ hP
      generalize H1 = H at hP hS ⊢
      exact end_I F hr hlk rfl hP hS d_Mo_mount_58
    | succ j ih =>
      intro i hi H locs ls hP hS hl
      have hb0 := HB i (by omega)
      refine lv_iload_n hx hb d_Mo_mount_22 rfl (lv_at hl 0 rfl) ?_
      refine lv_bipush (v := nI 24) hx hb d_Mo_mount_23 (by decide) ?_
      refine lv_icmp_ge (tgt := 54) hx hb d_Mo_mount_25 (by decide) (fun c25 => absurd c25 (fun z => absurd ((nI_leI (by omega) (by omega)).mp z) (by omega))) (fun c25 => ?_)
      refine lv_aload_n hx hb d_Mo_mount_28 rfl (lv_at hl 1 rfl) ?_
      refine nw_get (D := D) (ci := 5) (C := R_Mo) (T := T_Mo) (N := 16) hx hb hts in_Mo hown hK.k hP (i := 0) (by decide) md_0 rfl 9 (by decide) (hts _ kf_Mo_20) rfl d_Mo_mount_29 ?_
      refine lv_iload_n hx hb d_Mo_mount_32 rfl (lv_at hl 0 rfl) ?_
      refine lv_aload_n hx hb d_Mo_mount_33 rfl (lv_at hl 1 rfl) ?_
      refine nw_get (D := D) (ci := 5) (C := R_Mo) (T := T_Mo) (N := 16) hx hb hts in_Mo hown hK.k hP (i := 0) (by decide) md_0 rfl 8 (by decide) (hts _ kf_Mo_17) rfl d_Mo_mount_34 ?_
      refine lv_iload_n hx hb d_Mo_mount_37 rfl (lv_at hl 0 rfl) ?_
      refine nw_iald hx hb hK.k hP (i := 3) (by decide) md_3 1 rfl (vp_in_nI (by omega) (by omega)) d_Mo_mount_38 ?_
      refine lv_eqi (y := nI (be i)) (by rw [nI_clamp (by omega)]) ?_
      refine lv_if_le (tgt := 46) hx hb d_Mo_mount_39 (by decide) (fun c39 => ?_) (fun c39 => ?_)
      · have c39 := (nI_zl (by omega)).mp c39
        refine lv_iconst (v := nI 0) hx hb d_Mo_mount_46 (by decide) ?_
        refine lv_eqi (y := bI (decide (0 < be i))) (by rw [decide_eq_false (show ¬ 0 < be i by omega)]; rfl) ?_
        refine nw_zast hx hb hK.k hP hD hS (i := 4) (by decide) md_4 2 rfl (vp_in_nI (by omega) (by omega)) d_Mo_mount_47 (fun H locs hP hS hz hq => ?_)
        rw [nI_clamp (by omega), zn_upd, mtL_s] at hP
        have hP : nw D vcl PM ad (mdC cy ad 0 false tp 0 w cp cb we be (mtL be lg (i + 1)) co fi bn none ro fo) H := nw_congr hP (mdu_lg)
        refine lv_iinc (v := nI (i + 1)) (lv' := [(1, .int (nI (i + 1))), (0, .ref (ad 0))]) hx hb d_Mo_mount_48 hl (k := 0) rfl (nI_inc _) (by decide) rfl (fun ls hl => ?_)
        refine lv_goto (tgt := 22) hx hb d_Mo_mount_51 (by decide) ?_
        exact ih (i + 1) (by omega) _ _ _ hP hS (lv_sub hl [0, 1] rfl)
      · have c39 := mt (nI_zl (by omega)).mpr c39
        refine lv_iconst (v := nI 1) hx hb d_Mo_mount_42 (by decide) ?_
        refine lv_goto (tgt := 47) hx hb d_Mo_mount_43 (by decide) ?_
        refine lv_eqi (y := bI (decide (0 < be i))) (by rw [decide_eq_true (show 0 < be i by omega)]; rfl) ?_
        refine nw_zast hx hb hK.k hP hD hS (i := 4) (by decide) md_4 2 rfl (vp_in_nI (by omega) (by omega)) d_Mo_mount_47 (fun H locs hP hS hz hq => ?_)
        rw [nI_clamp (by omega), zn_upd, mtL_s] at hP
        have hP : nw D vcl PM ad (mdC cy ad 0 false tp 0 w cp cb we be (mtL be lg (i + 1)) co fi bn none ro fo) H := nw_congr hP (mdu_lg)
        refine lv_iinc (v := nI (i + 1)) (lv' := [(1, .int (nI (i + 1))), (0, .ref (ad 0))]) hx hb d_Mo_mount_48 hl (k := 0) rfl (nI_inc _) (by decide) rfl (fun ls hl => ?_)
        refine lv_goto (tgt := 22) hx hb d_Mo_mount_51 (by decide) ?_
        exact ih (i + 1) (by omega) _ _ _ hP hS (lv_sub hl [0, 1] rfl)
  exact loop 24 0 (by omega) _ _ _ hP hS (lv_sub hl [0, 1] rfl)
set_option maxRecDepth 100000 in
set_option maxHeartbeats 4000000 in
theorem c_Mo_retire1 (l : Launch) (D : va_G) (cy : Nat → ClassId) (ad : Nat → Nat) (fl tn cp cb bn fo : Nat) (dn w : Bool) (tp we be co fi ro : Nat → Nat) (lg : Nat → Bool) (op : Option Nat) (x : Int32) (h : x < nI 0 ∨ nI 23 < x) : mtI l y_Mo_retire b_Mo_retire 3 (some .int) RM D cy [.ref (ad 0), .int (x)] PM ad (mdC cy ad fl dn tp tn w cp cb we be lg co fi bn op ro fo) (mdC cy ad 1 dn tp tn w cp cb we be lg co fi bn op ro fo) (nI 0) := by
  intro sz
  refine nm_ofW (cc := b_Mo_retire) (maxL := 3) (ret := (some .int)) (own := R_Mo) (by decide) (Nat.le_of_ble_eq_true rfl) rfl ?_
  intro p e s m below meth c ls F hr hlk hnm hv hl
  obtain ⟨hx, hb, hml, hown, hts⟩ := id F
  obtain ⟨rfl, hP, hK, hI⟩ := hv
  have hD : nd (na PM ad s.heap.size) PM ad := nd_self hI
  have hA : ∀ q, s.heap.size ≤ q → na PM ad s.heap.size q := fun q h => Or.inr h
  have hS : va_S (na PM ad s.heap.size) s.heap s.heap [] := va_S.rf
  have hl : lv_has ls 3 [(0, .ref (ad 0)), (1, .int (x))] := hl
  refine lv_aload_n hx hb d_Mo_retire_0 rfl (lv_at hl 0 rfl) ?_
  refine lv_iconst (v := nI 0) hx hb d_Mo_retire_1 (by decide) ?_
  refine nw_put (D := D) (ci := 5) (C := R_Mo) (T := T_Mo) (N := 16) hx hb hts in_Mo ty_Mo tk_Mo nm_Mo hown hK.k hP hD hS (i := 0) (by decide) md_0 rfl 0 (by decide) (hts _ kf_Mo_38) rfl rfl rfl (Nat.le_of_ble_eq_true rfl) d_Mo_retire_2 (fun H locs hP hS hz hq => ?_)
  have hP : nw D vcl PM ad (mdC cy ad 0 dn tp tn w cp cb we be lg co fi bn op ro fo) H := nw_congr hP (mdu_fl)
  refine lv_iload_n hx hb d_Mo_retire_5 rfl (lv_at hl 1 rfl) ?_
  refine lv_if_lt (tgt := 15) hx hb d_Mo_retire_6 (by decide) (fun c6 => ?_) (fun c6 => ?_)
  · refine lv_aload_n hx hb d_Mo_retire_15 rfl (lv_at hl 0 rfl) ?_
    refine lv_iconst (v := nI 1) hx hb d_Mo_retire_16 (by decide) ?_
    refine call_I (As := [.int (nI 1)]) (rest := []) F hK (c_Mo_fail l D cy ad 0 tn cp cb bn fo dn w tp we be co fi ro lg op 1) km_Mo_45 ki_Mo_fail ks_Mo_fail k0_Mo kc_Mo_fail kd_Mo_fail ⟨Nat.le_of_ble_eq_true rfl, Nat.le_of_ble_eq_true rfl⟩ (nw_recv hK.k hP (i := 0) (by decide) md_0 rfl) (hP) (hI) hl.1 rfl (Nat.le_of_ble_eq_true rfl) d_Mo_retire_17 ⟨(Nat.le_of_ble_eq_true rfl), (Nat.le_of_ble_eq_true rfl)⟩ hS (na_le hS) (fun H1 locs1 hP1 hk1 hS => ?_)
    have hP : nw D vcl PM ad (mdC cy ad 1 dn tp tn w cp cb we be lg co fi bn op ro fo) H1 := hP1
    generalize H1 = H at hP hS ⊢
    exact end_I F hr hlk rfl hP hS d_Mo_retire_20
  · refine lv_iload_n hx hb d_Mo_retire_9 rfl (lv_at hl 1 rfl) ?_
    refine lv_bipush (v := nI 23) hx hb d_Mo_retire_10 (by decide) ?_
    refine lv_icmp_le (tgt := 21) hx hb d_Mo_retire_12 (by decide) (fun c12 => absurd c12 (fun z => absurd (h.resolve_left c6) (Int32.not_lt.mpr z))) (fun c12 => ?_)
    refine lv_aload_n hx hb d_Mo_retire_15 rfl (lv_at hl 0 rfl) ?_
    refine lv_iconst (v := nI 1) hx hb d_Mo_retire_16 (by decide) ?_
    refine call_I (As := [.int (nI 1)]) (rest := []) F hK (c_Mo_fail l D cy ad 0 tn cp cb bn fo dn w tp we be co fi ro lg op 1) km_Mo_45 ki_Mo_fail ks_Mo_fail k0_Mo kc_Mo_fail kd_Mo_fail ⟨Nat.le_of_ble_eq_true rfl, Nat.le_of_ble_eq_true rfl⟩ (nw_recv hK.k hP (i := 0) (by decide) md_0 rfl) (hP) (hI) hl.1 rfl (Nat.le_of_ble_eq_true rfl) d_Mo_retire_17 ⟨(Nat.le_of_ble_eq_true rfl), (Nat.le_of_ble_eq_true rfl)⟩ hS (na_le hS) (fun H1 locs1 hP1 hk1 hS => ?_)
    have hP : nw D vcl PM ad (mdC cy ad 1 dn tp tn w cp cb we be lg co fi bn op ro fo) H1 := hP1
    generalize H1 = H at hP hS ⊢
    exact end_I F hr hlk rfl hP hS d_Mo_retire_20
set_option maxRecDepth 100000 in
set_option maxHeartbeats 4000000 in
theorem c_Mo_retire2 (l : Launch) (D : va_G) (cy : Nat → ClassId) (ad : Nat → Nat) (fl tn cp cb bn fo : Nat) (dn w : Bool) (tp we be co fi ro : Nat → Nat) (lg : Nat → Bool) (op : Option Nat) (i : Nat) (hi : i ≤ 23) : mtI l y_Mo_retire b_Mo_retire 3 (some .int) RM D cy [.ref (ad 0), .int (nI i)] PM ad (mdC cy ad fl true tp tn w cp cb we be lg co fi bn op ro fo) (mdC cy ad 2 true tp tn w cp cb we be lg co fi bn op ro fo) (nI 0) := by
  intro sz
  refine nm_ofW (cc := b_Mo_retire) (maxL := 3) (ret := (some .int)) (own := R_Mo) (by decide) (Nat.le_of_ble_eq_true rfl) rfl ?_
  intro p e s m below meth c ls F hr hlk hnm hv hl
  obtain ⟨hx, hb, hml, hown, hts⟩ := id F
  obtain ⟨rfl, hP, hK, hI⟩ := hv
  have hD : nd (na PM ad s.heap.size) PM ad := nd_self hI
  have hA : ∀ q, s.heap.size ≤ q → na PM ad s.heap.size q := fun q h => Or.inr h
  have hS : va_S (na PM ad s.heap.size) s.heap s.heap [] := va_S.rf
  have hl : lv_has ls 3 [(0, .ref (ad 0)), (1, .int (nI i))] := hl
  refine lv_aload_n hx hb d_Mo_retire_0 rfl (lv_at hl 0 rfl) ?_
  refine lv_iconst (v := nI 0) hx hb d_Mo_retire_1 (by decide) ?_
  refine nw_put (D := D) (ci := 5) (C := R_Mo) (T := T_Mo) (N := 16) hx hb hts in_Mo ty_Mo tk_Mo nm_Mo hown hK.k hP hD hS (i := 0) (by decide) md_0 rfl 0 (by decide) (hts _ kf_Mo_38) rfl rfl rfl (Nat.le_of_ble_eq_true rfl) d_Mo_retire_2 (fun H locs hP hS hz hq => ?_)
  have hP : nw D vcl PM ad (mdC cy ad 0 true tp tn w cp cb we be lg co fi bn op ro fo) H := nw_congr hP (mdu_fl)
  refine lv_iload_n hx hb d_Mo_retire_5 rfl (lv_at hl 1 rfl) ?_
  refine lv_if_lt (tgt := 15) hx hb d_Mo_retire_6 (by decide) (fun c6 => absurd c6 (nI_pos (by omega))) (fun c6 => ?_)
  refine lv_iload_n hx hb d_Mo_retire_9 rfl (lv_at hl 1 rfl) ?_
  refine lv_bipush (v := nI 23) hx hb d_Mo_retire_10 (by decide) ?_
  refine lv_icmp_le (tgt := 21) hx hb d_Mo_retire_12 (by decide) (fun c12 => ?_) (fun c12 => absurd ((nI_leI (by omega) (by omega)).mpr (by omega)) c12)
  refine lv_aload_n hx hb d_Mo_retire_21 rfl (lv_at hl 0 rfl) ?_
  refine nw_get (D := D) (ci := 5) (C := R_Mo) (T := T_Mo) (N := 16) hx hb hts in_Mo hown hK.k hP (i := 0) (by decide) md_0 rfl 1 (by decide) (hts _ kf_Mo_41) rfl d_Mo_retire_22 ?_
  refine lv_if_eq (tgt := 34) hx hb d_Mo_retire_25 (by decide) (fun c25 => absurd c25 (show ¬ bI true = 0 by decide)) (fun c25 => ?_)
  refine lv_aload_n hx hb d_Mo_retire_28 rfl (lv_at hl 0 rfl) ?_
  refine lv_iconst (v := nI 2) hx hb d_Mo_retire_29 (by decide) ?_
  refine call_I (As := [.int (nI 2)]) (rest := []) F hK (c_Mo_fail l D cy ad 0 tn cp cb bn fo true w tp we be co fi ro lg op 2) km_Mo_45 ki_Mo_fail ks_Mo_fail k0_Mo kc_Mo_fail kd_Mo_fail ⟨Nat.le_of_ble_eq_true rfl, Nat.le_of_ble_eq_true rfl⟩ (nw_recv hK.k hP (i := 0) (by decide) md_0 rfl) (hP) (hI) hl.1 rfl (Nat.le_of_ble_eq_true rfl) d_Mo_retire_30 ⟨(Nat.le_of_ble_eq_true rfl), (Nat.le_of_ble_eq_true rfl)⟩ hS (na_le hS) (fun H1 locs1 hP1 hk1 hS => ?_)
  have hP : nw D vcl PM ad (mdC cy ad 2 true tp tn w cp cb we be lg co fi bn op ro fo) H1 := hP1
  generalize H1 = H at hP hS ⊢
  exact end_I F hr hlk rfl hP hS d_Mo_retire_33
set_option maxRecDepth 100000 in
set_option maxHeartbeats 4000000 in
theorem c_Mo_retire3 (l : Launch) (D : va_G) (cy : Nat → ClassId) (ad : Nat → Nat) (fl tn cp cb bn fo : Nat) (dn w : Bool) (tp we be co fi ro : Nat → Nat) (lg : Nat → Bool) (op : Option Nat) (i : Nat) (hi : i ≤ 23) (HB : ∀ b, b < 24 → be b < 2 ^ 31) (h : bAt lg be i 24 0 = none) : mtI l y_Mo_retire b_Mo_retire 3 (some .int) RM D cy [.ref (ad 0), .int (nI i)] PM ad (mdC cy ad fl false tp tn w cp cb we be lg co fi bn op ro fo) (mdC cy ad 3 false tp tn w cp cb we be lg co fi bn op ro fo) (nI 0) := by
  intro sz
  refine nm_ofW (cc := b_Mo_retire) (maxL := 3) (ret := (some .int)) (own := R_Mo) (by decide) (Nat.le_of_ble_eq_true rfl) rfl ?_
  intro p e s m below meth c ls F hr hlk hnm hv hl
  obtain ⟨hx, hb, hml, hown, hts⟩ := id F
  obtain ⟨rfl, hP, hK, hI⟩ := hv
  have hD : nd (na PM ad s.heap.size) PM ad := nd_self hI
  have hA : ∀ q, s.heap.size ≤ q → na PM ad s.heap.size q := fun q h => Or.inr h
  have hS : va_S (na PM ad s.heap.size) s.heap s.heap [] := va_S.rf
  have hl : lv_has ls 3 [(0, .ref (ad 0)), (1, .int (nI i))] := hl
  refine lv_aload_n hx hb d_Mo_retire_0 rfl (lv_at hl 0 rfl) ?_
  refine lv_iconst (v := nI 0) hx hb d_Mo_retire_1 (by decide) ?_
  refine nw_put (D := D) (ci := 5) (C := R_Mo) (T := T_Mo) (N := 16) hx hb hts in_Mo ty_Mo tk_Mo nm_Mo hown hK.k hP hD hS (i := 0) (by decide) md_0 rfl 0 (by decide) (hts _ kf_Mo_38) rfl rfl rfl (Nat.le_of_ble_eq_true rfl) d_Mo_retire_2 (fun H locs hP hS hz hq => ?_)
  have hP : nw D vcl PM ad (mdC cy ad 0 false tp tn w cp cb we be lg co fi bn op ro fo) H := nw_congr hP (mdu_fl)
  refine lv_iload_n hx hb d_Mo_retire_5 rfl (lv_at hl 1 rfl) ?_
  refine lv_if_lt (tgt := 15) hx hb d_Mo_retire_6 (by decide) (fun c6 => absurd c6 (nI_pos (by omega))) (fun c6 => ?_)
  refine lv_iload_n hx hb d_Mo_retire_9 rfl (lv_at hl 1 rfl) ?_
  refine lv_bipush (v := nI 23) hx hb d_Mo_retire_10 (by decide) ?_
  refine lv_icmp_le (tgt := 21) hx hb d_Mo_retire_12 (by decide) (fun c12 => ?_) (fun c12 => absurd ((nI_leI (by omega) (by omega)).mpr (by omega)) c12)
  refine lv_aload_n hx hb d_Mo_retire_21 rfl (lv_at hl 0 rfl) ?_
  refine nw_get (D := D) (ci := 5) (C := R_Mo) (T := T_Mo) (N := 16) hx hb hts in_Mo hown hK.k hP (i := 0) (by decide) md_0 rfl 1 (by decide) (hts _ kf_Mo_41) rfl d_Mo_retire_22 ?_
  refine lv_if_eq (tgt := 34) hx hb d_Mo_retire_25 (by decide) (fun c25 => ?_) (fun c25 => absurd (show bI false = 0 by decide) c25)
  refine lv_aload_n hx hb d_Mo_retire_34 rfl (lv_at hl 0 rfl) ?_
  refine lv_iload_n hx hb d_Mo_retire_35 rfl (lv_at hl 1 rfl) ?_
  refine call_R (As := [.int (nI i)]) (rest := []) F hK (c_Mo_blockAt l D cy ad 0 tn cp cb bn fo false w tp we be co fi ro lg op i (by omega) HB) km_Mo_75 ki_Mo_blockAt ks_Mo_blockAt k0_Mo kc_Mo_blockAt kd_Mo_blockAt ⟨Nat.le_of_ble_eq_true rfl, Nat.le_of_ble_eq_true rfl⟩ (nw_recv hK.k hP (i := 0) (by decide) md_0 rfl) (hP) (hI) hl.1 rfl (Nat.le_of_ble_eq_true rfl) d_Mo_retire_36 ⟨(Nat.le_of_ble_eq_true rfl), (Nat.le_of_ble_eq_true rfl)⟩ hS (fun H1 locs1 hN hS => ?_)
  have hP := hN _ _ _ hP
  generalize H1 = H at hP hS ⊢
  refine lv_eqi (y := -1) (by rw [h]; rfl) ?_
  refine lv_istore_n (lv' := [(2, .int (-1)), (0, .ref (ad 0)), (1, .int (nI i))]) hx hb d_Mo_retire_39 rfl hl (by decide) rfl (fun ls hl => ?_)
  refine lv_iload_n hx hb d_Mo_retire_40 rfl (lv_at hl 0 rfl) ?_
  refine lv_if_ge (tgt := 50) hx hb d_Mo_retire_41 (by decide) (fun c41 => absurd c41 (show ¬ (0 : Int32) ≤ -1 by decide)) (fun c41 => ?_)
  refine lv_aload_n hx hb d_Mo_retire_44 rfl (lv_at hl 1 rfl) ?_
  refine lv_iconst (v := nI 3) hx hb d_Mo_retire_45 (by decide) ?_
  refine call_I (As := [.int (nI 3)]) (rest := []) F hK (c_Mo_fail l D cy ad 0 tn cp cb bn fo false w tp we be co fi ro lg op 3) km_Mo_45 ki_Mo_fail ks_Mo_fail k0_Mo kc_Mo_fail kd_Mo_fail ⟨Nat.le_of_ble_eq_true rfl, Nat.le_of_ble_eq_true rfl⟩ (nw_recv hK.k hP (i := 0) (by decide) md_0 rfl) (hP) (hI) hl.1 rfl (Nat.le_of_ble_eq_true rfl) d_Mo_retire_46 ⟨(Nat.le_of_ble_eq_true rfl), (Nat.le_of_ble_eq_true rfl)⟩ hS (na_le hS) (fun H1 locs1 hP1 hk1 hS => ?_)
  have hP : nw D vcl PM ad (mdC cy ad 3 false tp tn w cp cb we be lg co fi bn op ro fo) H1 := hP1
  generalize H1 = H at hP hS ⊢
  exact end_I F hr hlk rfl hP hS d_Mo_retire_49
set_option maxRecDepth 100000 in
set_option maxHeartbeats 4000000 in
theorem c_Mo_retire0 (l : Launch) (D : va_G) (cy : Nat → ClassId) (ad : Nat → Nat) (fl tn cp cb bn fo : Nat) (dn w : Bool) (tp we be co fi ro : Nat → Nat) (lg : Nat → Bool) (op : Option Nat) (i : Nat) (hi : i ≤ 23) (b : Nat) (hb24 : b < 24) (HB : ∀ b, b < 24 → be b < 2 ^ 31) (h : bAt lg be i 24 0 = some b) (ho : ∀ c, op = some c → c < 24) : mtI l y_Mo_retire b_Mo_retire 3 (some .int) RM D cy [.ref (ad 0), .int (nI i)] PM ad (mdC cy ad fl false tp tn w cp cb we be lg co fi bn op ro fo) (mdC cy ad 0 false tp tn w cp cb we be (va_up lg b false) co fi bn (if op = some b then none else op) ro fo) (nI (cntL (va_up lg b false) 24)) := by
  intro sz
  refine nm_ofW (cc := b_Mo_retire) (maxL := 3) (ret := (some .int)) (own := R_Mo) (by decide) (Nat.le_of_ble_eq_true rfl) rfl ?_
  intro p e s m below meth c ls F hr hlk hnm hv hl
  obtain ⟨hx, hb, hml, hown, hts⟩ := id F
  obtain ⟨rfl, hP, hK, hI⟩ := hv
  have hD : nd (na PM ad s.heap.size) PM ad := nd_self hI
  have hA : ∀ q, s.heap.size ≤ q → na PM ad s.heap.size q := fun q h => Or.inr h
  have hS : va_S (na PM ad s.heap.size) s.heap s.heap [] := va_S.rf
  have hl : lv_has ls 3 [(0, .ref (ad 0)), (1, .int (nI i))] := hl
  refine lv_aload_n hx hb d_Mo_retire_0 rfl (lv_at hl 0 rfl) ?_
  refine lv_iconst (v := nI 0) hx hb d_Mo_retire_1 (by decide) ?_
  refine nw_put (D := D) (ci := 5) (C := R_Mo) (T := T_Mo) (N := 16) hx hb hts in_Mo ty_Mo tk_Mo nm_Mo hown hK.k hP hD hS (i := 0) (by decide) md_0 rfl 0 (by decide) (hts _ kf_Mo_38) rfl rfl rfl (Nat.le_of_ble_eq_true rfl) d_Mo_retire_2 (fun H locs hP hS hz hq => ?_)
  have hP : nw D vcl PM ad (mdC cy ad 0 false tp tn w cp cb we be lg co fi bn op ro fo) H := nw_congr hP (mdu_fl)
  refine lv_iload_n hx hb d_Mo_retire_5 rfl (lv_at hl 1 rfl) ?_
  refine lv_if_lt (tgt := 15) hx hb d_Mo_retire_6 (by decide) (fun c6 => absurd c6 (nI_pos (by omega))) (fun c6 => ?_)
  refine lv_iload_n hx hb d_Mo_retire_9 rfl (lv_at hl 1 rfl) ?_
  refine lv_bipush (v := nI 23) hx hb d_Mo_retire_10 (by decide) ?_
  refine lv_icmp_le (tgt := 21) hx hb d_Mo_retire_12 (by decide) (fun c12 => ?_) (fun c12 => absurd ((nI_leI (by omega) (by omega)).mpr (by omega)) c12)
  refine lv_aload_n hx hb d_Mo_retire_21 rfl (lv_at hl 0 rfl) ?_
  refine nw_get (D := D) (ci := 5) (C := R_Mo) (T := T_Mo) (N := 16) hx hb hts in_Mo hown hK.k hP (i := 0) (by decide) md_0 rfl 1 (by decide) (hts _ kf_Mo_41) rfl d_Mo_retire_22 ?_
  refine lv_if_eq (tgt := 34) hx hb d_Mo_retire_25 (by decide) (fun c25 => ?_) (fun c25 => absurd (show bI false = 0 by decide) c25)
  refine lv_aload_n hx hb d_Mo_retire_34 rfl (lv_at hl 0 rfl) ?_
  refine lv_iload_n hx hb d_Mo_retire_35 rfl (lv_at hl 1 rfl) ?_
  refine call_R (As := [.int (nI i)]) (rest := []) F hK (c_Mo_blockAt l D cy ad 0 tn cp cb bn fo false w tp we be co fi ro lg op i (by omega) HB) km_Mo_75 ki_Mo_blockAt ks_Mo_blockAt k0_Mo kc_Mo_blockAt kd_Mo_blockAt ⟨Nat.le_of_ble_eq_true rfl, Nat.le_of_ble_eq_true rfl⟩ (nw_recv hK.k hP (i := 0) (by decide) md_0 rfl) (hP) (hI) hl.1 rfl (Nat.le_of_ble_eq_true rfl) d_Mo_retire_36 ⟨(Nat.le_of_ble_eq_true rfl), (Nat.le_of_ble_eq_true rfl)⟩ hS (fun H1 locs1 hN hS => ?_)
  have hP := hN _ _ _ hP
  generalize H1 = H at hP hS ⊢
  refine lv_eqi (y := nI b) (by rw [h]; rfl) ?_
  refine lv_istore_n (lv' := [(2, .int (nI b)), (0, .ref (ad 0)), (1, .int (nI i))]) hx hb d_Mo_retire_39 rfl hl (by decide) rfl (fun ls hl => ?_)
  refine lv_iload_n hx hb d_Mo_retire_40 rfl (lv_at hl 0 rfl) ?_
  refine lv_if_ge (tgt := 50) hx hb d_Mo_retire_41 (by decide) (fun c41 => ?_) (fun c41 => absurd (nI_pos' (by omega)) c41)
  refine lv_aload_n hx hb d_Mo_retire_50 rfl (lv_at hl 1 rfl) ?_
  refine nw_get (D := D) (ci := 5) (C := R_Mo) (T := T_Mo) (N := 16) hx hb hts in_Mo hown hK.k hP (i := 0) (by decide) md_0 rfl 9 (by decide) (hts _ kf_Mo_20) rfl d_Mo_retire_51 ?_
  refine lv_iload_n hx hb d_Mo_retire_54 rfl (lv_at hl 0 rfl) ?_
  refine lv_iconst (v := nI 0) hx hb d_Mo_retire_55 (by decide) ?_
  refine lv_eqi (y := bI false) rfl ?_
  refine nw_zast hx hb hK.k hP hD hS (i := 4) (by decide) md_4 2 rfl (vp_in_nI (by omega) (by omega)) d_Mo_retire_56 (fun H locs hP hS hz hq => ?_)
  rw [nI_clamp (by omega), zn_upd] at hP
  have hP : nw D vcl PM ad (mdC cy ad 0 false tp tn w cp cb we be (va_up lg b false) co fi bn op ro fo) H := nw_congr hP (mdu_lg)
  refine lv_iload_n hx hb d_Mo_retire_57 rfl (lv_at hl 0 rfl) ?_
  refine lv_aload_n hx hb d_Mo_retire_58 rfl (lv_at hl 1 rfl) ?_
  refine nw_get (D := D) (ci := 5) (C := R_Mo) (T := T_Mo) (N := 16) hx hb hts in_Mo hown hK.k hP (i := 0) (by decide) md_0 rfl 13 (by decide) (hts _ kf_Mo_30) rfl d_Mo_retire_59 ?_
  by_cases hop : op = some b
  · rw [if_pos hop]
    refine lv_icmp_ne (tgt := 70) hx hb d_Mo_retire_62 (by decide) (fun c62 => absurd (by rw [hop]; rfl) c62) (fun c62 => ?_)
    refine lv_aload_n hx hb d_Mo_retire_65 rfl (lv_at hl 1 rfl) ?_
    refine lv_iconst (v := -1) hx hb d_Mo_retire_66 (by decide) ?_
    refine lv_eqi (y := oI none) rfl ?_
    refine nw_put (D := D) (ci := 5) (C := R_Mo) (T := T_Mo) (N := 16) hx hb hts in_Mo ty_Mo tk_Mo nm_Mo hown hK.k hP hD hS (i := 0) (by decide) md_0 rfl 13 (by decide) (hts _ kf_Mo_30) rfl rfl rfl (Nat.le_of_ble_eq_true rfl) d_Mo_retire_67 (fun H locs hP hS hz hq => ?_)
    have hP : nw D vcl PM ad (mdC cy ad 0 false tp tn w cp cb we be (va_up lg b false) co fi bn none ro fo) H := nw_congr hP (mdu_op)
    refine lv_aload_n hx hb d_Mo_retire_70 rfl (lv_at hl 1 rfl) ?_
    refine call_R (As := []) (rest := []) F hK (c_Mo_blocks l D cy ad 0 tn cp cb bn fo false w tp we be co fi ro (va_up lg b false) none) km_Mo_67 ki_Mo_blocks ks_Mo_blocks k0_Mo kc_Mo_blocks kd_Mo_blocks ⟨Nat.le_of_ble_eq_true rfl, Nat.le_of_ble_eq_true rfl⟩ (nw_recv hK.k hP (i := 0) (by decide) md_0 rfl) (hP) (hI) hl.1 rfl (Nat.le_of_ble_eq_true rfl) d_Mo_retire_71 ⟨(Nat.le_of_ble_eq_true rfl), (Nat.le_of_ble_eq_true rfl)⟩ hS (fun H1 locs1 hN hS => ?_)
    have hP := hN _ _ _ hP
    generalize H1 = H at hP hS ⊢
    exact end_I F hr hlk rfl hP hS d_Mo_retire_74
  · rw [if_neg hop]
    refine lv_icmp_ne (tgt := 70) hx hb d_Mo_retire_62 (by decide) (fun c62 => ?_) (fun c62 => absurd c62 (oI_ne hb24 ho hop))
    refine lv_aload_n hx hb d_Mo_retire_70 rfl (lv_at hl 1 rfl) ?_
    refine call_R (As := []) (rest := []) F hK (c_Mo_blocks l D cy ad 0 tn cp cb bn fo false w tp we be co fi ro (va_up lg b false) op) km_Mo_67 ki_Mo_blocks ks_Mo_blocks k0_Mo kc_Mo_blocks kd_Mo_blocks ⟨Nat.le_of_ble_eq_true rfl, Nat.le_of_ble_eq_true rfl⟩ (nw_recv hK.k hP (i := 0) (by decide) md_0 rfl) (hP) (hI) hl.1 rfl (Nat.le_of_ble_eq_true rfl) d_Mo_retire_71 ⟨(Nat.le_of_ble_eq_true rfl), (Nat.le_of_ble_eq_true rfl)⟩ hS (fun H1 locs1 hN hS => ?_)
    have hP := hN _ _ _ hP
    generalize H1 = H at hP hS ⊢
    exact end_I F hr hlk rfl hP hS d_Mo_retire_74
set_option maxRecDepth 100000 in
set_option maxHeartbeats 4000000 in
theorem c_Mo_count1 (l : Launch) (D : va_G) (cy : Nat → ClassId) (ad : Nat → Nat) (fl tn cp cb bn fo : Nat) (dn w : Bool) (tp we be co fi ro : Nat → Nat) (lg : Nat → Bool) (op : Option Nat) (x : Int32) (h : x < nI 0 ∨ nI 4 < x) : mtI l y_Mo_count b_Mo_count 2 (some .int) RM D cy [.ref (ad 0), .int (x)] PM ad (mdC cy ad fl dn tp tn w cp cb we be lg co fi bn op ro fo) (mdC cy ad 1 dn tp tn w cp cb we be lg co fi bn op ro fo) (nI 0) := by
  intro sz
  refine nm_ofW (cc := b_Mo_count) (maxL := 2) (ret := (some .int)) (own := R_Mo) (by decide) (Nat.le_of_ble_eq_true rfl) rfl ?_
  intro p e s m below meth c ls F hr hlk hnm hv hl
  obtain ⟨hx, hb, hml, hown, hts⟩ := id F
  obtain ⟨rfl, hP, hK, hI⟩ := hv
  have hD : nd (na PM ad s.heap.size) PM ad := nd_self hI
  have hA : ∀ q, s.heap.size ≤ q → na PM ad s.heap.size q := fun q h => Or.inr h
  have hS : va_S (na PM ad s.heap.size) s.heap s.heap [] := va_S.rf
  have hl : lv_has ls 2 [(0, .ref (ad 0)), (1, .int (x))] := hl
  refine lv_aload_n hx hb d_Mo_count_0 rfl (lv_at hl 0 rfl) ?_
  refine lv_iconst (v := nI 0) hx hb d_Mo_count_1 (by decide) ?_
  refine nw_put (D := D) (ci := 5) (C := R_Mo) (T := T_Mo) (N := 16) hx hb hts in_Mo ty_Mo tk_Mo nm_Mo hown hK.k hP hD hS (i := 0) (by decide) md_0 rfl 0 (by decide) (hts _ kf_Mo_38) rfl rfl rfl (Nat.le_of_ble_eq_true rfl) d_Mo_count_2 (fun H locs hP hS hz hq => ?_)
  have hP : nw D vcl PM ad (mdC cy ad 0 dn tp tn w cp cb we be lg co fi bn op ro fo) H := nw_congr hP (mdu_fl)
  refine lv_iload_n hx hb d_Mo_count_5 rfl (lv_at hl 1 rfl) ?_
  refine lv_if_lt (tgt := 14) hx hb d_Mo_count_6 (by decide) (fun c6 => ?_) (fun c6 => ?_)
  · refine lv_aload_n hx hb d_Mo_count_14 rfl (lv_at hl 0 rfl) ?_
    refine lv_iconst (v := nI 1) hx hb d_Mo_count_15 (by decide) ?_
    refine call_I (As := [.int (nI 1)]) (rest := []) F hK (c_Mo_fail l D cy ad 0 tn cp cb bn fo dn w tp we be co fi ro lg op 1) km_Mo_45 ki_Mo_fail ks_Mo_fail k0_Mo kc_Mo_fail kd_Mo_fail ⟨Nat.le_of_ble_eq_true rfl, Nat.le_of_ble_eq_true rfl⟩ (nw_recv hK.k hP (i := 0) (by decide) md_0 rfl) (hP) (hI) hl.1 rfl (Nat.le_of_ble_eq_true rfl) d_Mo_count_16 ⟨(Nat.le_of_ble_eq_true rfl), (Nat.le_of_ble_eq_true rfl)⟩ hS (na_le hS) (fun H1 locs1 hP1 hk1 hS => ?_)
    have hP : nw D vcl PM ad (mdC cy ad 1 dn tp tn w cp cb we be lg co fi bn op ro fo) H1 := hP1
    generalize H1 = H at hP hS ⊢
    exact end_I F hr hlk rfl hP hS d_Mo_count_19
  · refine lv_iload_n hx hb d_Mo_count_9 rfl (lv_at hl 1 rfl) ?_
    refine lv_iconst (v := nI 4) hx hb d_Mo_count_10 (by decide) ?_
    refine lv_icmp_le (tgt := 20) hx hb d_Mo_count_11 (by decide) (fun c11 => absurd c11 (fun z => absurd (h.resolve_left c6) (Int32.not_lt.mpr z))) (fun c11 => ?_)
    refine lv_aload_n hx hb d_Mo_count_14 rfl (lv_at hl 0 rfl) ?_
    refine lv_iconst (v := nI 1) hx hb d_Mo_count_15 (by decide) ?_
    refine call_I (As := [.int (nI 1)]) (rest := []) F hK (c_Mo_fail l D cy ad 0 tn cp cb bn fo dn w tp we be co fi ro lg op 1) km_Mo_45 ki_Mo_fail ks_Mo_fail k0_Mo kc_Mo_fail kd_Mo_fail ⟨Nat.le_of_ble_eq_true rfl, Nat.le_of_ble_eq_true rfl⟩ (nw_recv hK.k hP (i := 0) (by decide) md_0 rfl) (hP) (hI) hl.1 rfl (Nat.le_of_ble_eq_true rfl) d_Mo_count_16 ⟨(Nat.le_of_ble_eq_true rfl), (Nat.le_of_ble_eq_true rfl)⟩ hS (na_le hS) (fun H1 locs1 hP1 hk1 hS => ?_)
    have hP : nw D vcl PM ad (mdC cy ad 1 dn tp tn w cp cb we be lg co fi bn op ro fo) H1 := hP1
    generalize H1 = H at hP hS ⊢
    exact end_I F hr hlk rfl hP hS d_Mo_count_19
set_option maxRecDepth 100000 in
set_option maxHeartbeats 4000000 in
theorem c_Mo_count2_0 (l : Launch) (D : va_G) (cy : Nat → ClassId) (ad : Nat → Nat) (fl tn cp cb bn fo : Nat) (dn w : Bool) (tp we be co fi ro : Nat → Nat) (lg : Nat → Bool) (op : Option Nat)  : mtI l y_Mo_count b_Mo_count 2 (some .int) RM D cy [.ref (ad 0), .int (nI 0)] PM ad (mdC cy ad fl true tp tn w cp cb we be lg co fi bn op ro fo) (mdC cy ad 2 true tp tn w cp cb we be lg co fi bn op ro fo) (nI 0) := by
  intro sz
  refine nm_ofW (cc := b_Mo_count) (maxL := 2) (ret := (some .int)) (own := R_Mo) (by decide) (Nat.le_of_ble_eq_true rfl) rfl ?_
  intro p e s m below meth c ls F hr hlk hnm hv hl
  obtain ⟨hx, hb, hml, hown, hts⟩ := id F
  obtain ⟨rfl, hP, hK, hI⟩ := hv
  have hD : nd (na PM ad s.heap.size) PM ad := nd_self hI
  have hA : ∀ q, s.heap.size ≤ q → na PM ad s.heap.size q := fun q h => Or.inr h
  have hS : va_S (na PM ad s.heap.size) s.heap s.heap [] := va_S.rf
  have hl : lv_has ls 2 [(0, .ref (ad 0)), (1, .int (nI 0))] := hl
  refine lv_aload_n hx hb d_Mo_count_0 rfl (lv_at hl 0 rfl) ?_
  refine lv_iconst (v := nI 0) hx hb d_Mo_count_1 (by decide) ?_
  refine nw_put (D := D) (ci := 5) (C := R_Mo) (T := T_Mo) (N := 16) hx hb hts in_Mo ty_Mo tk_Mo nm_Mo hown hK.k hP hD hS (i := 0) (by decide) md_0 rfl 0 (by decide) (hts _ kf_Mo_38) rfl rfl rfl (Nat.le_of_ble_eq_true rfl) d_Mo_count_2 (fun H locs hP hS hz hq => ?_)
  have hP : nw D vcl PM ad (mdC cy ad 0 true tp tn w cp cb we be lg co fi bn op ro fo) H := nw_congr hP (mdu_fl)
  refine lv_iload_n hx hb d_Mo_count_5 rfl (lv_at hl 1 rfl) ?_
  refine lv_if_lt (tgt := 14) hx hb d_Mo_count_6 (by decide) (fun c6 => absurd c6 (nI_pos (by omega))) (fun c6 => ?_)
  refine lv_iload_n hx hb d_Mo_count_9 rfl (lv_at hl 1 rfl) ?_
  refine lv_iconst (v := nI 4) hx hb d_Mo_count_10 (by decide) ?_
  refine lv_icmp_le (tgt := 20) hx hb d_Mo_count_11 (by decide) (fun c11 => ?_) (fun c11 => absurd ((nI_leI (by omega) (by omega)).mpr (by omega)) c11)
  refine lv_aload_n hx hb d_Mo_count_20 rfl (lv_at hl 0 rfl) ?_
  refine nw_get (D := D) (ci := 5) (C := R_Mo) (T := T_Mo) (N := 16) hx hb hts in_Mo hown hK.k hP (i := 0) (by decide) md_0 rfl 1 (by decide) (hts _ kf_Mo_41) rfl d_Mo_count_21 ?_
  refine lv_if_eq (tgt := 38) hx hb d_Mo_count_24 (by decide) (fun c24 => absurd c24 (show ¬ bI true = 0 by decide)) (fun c24 => ?_)
  refine lv_iload_n hx hb d_Mo_count_27 rfl (lv_at hl 1 rfl) ?_
  refine lv_iconst (v := nI 2) hx hb d_Mo_count_28 (by decide) ?_
  refine lv_icmp_ge (tgt := 38) hx hb d_Mo_count_29 (by decide) (fun c29 => absurd c29 (fun z => absurd ((nI_leI (by omega) (by omega)).mp z) (by omega))) (fun c29 => ?_)
  refine lv_aload_n hx hb d_Mo_count_32 rfl (lv_at hl 0 rfl) ?_
  refine lv_iconst (v := nI 2) hx hb d_Mo_count_33 (by decide) ?_
  refine call_I (As := [.int (nI 2)]) (rest := []) F hK (c_Mo_fail l D cy ad 0 tn cp cb bn fo true w tp we be co fi ro lg op 2) km_Mo_45 ki_Mo_fail ks_Mo_fail k0_Mo kc_Mo_fail kd_Mo_fail ⟨Nat.le_of_ble_eq_true rfl, Nat.le_of_ble_eq_true rfl⟩ (nw_recv hK.k hP (i := 0) (by decide) md_0 rfl) (hP) (hI) hl.1 rfl (Nat.le_of_ble_eq_true rfl) d_Mo_count_34 ⟨(Nat.le_of_ble_eq_true rfl), (Nat.le_of_ble_eq_true rfl)⟩ hS (na_le hS) (fun H1 locs1 hP1 hk1 hS => ?_)
  have hP : nw D vcl PM ad (mdC cy ad 2 true tp tn w cp cb we be lg co fi bn op ro fo) H1 := hP1
  generalize H1 = H at hP hS ⊢
  exact end_I F hr hlk rfl hP hS d_Mo_count_37
set_option maxRecDepth 100000 in
set_option maxHeartbeats 4000000 in
theorem c_Mo_count2_1 (l : Launch) (D : va_G) (cy : Nat → ClassId) (ad : Nat → Nat) (fl tn cp cb bn fo : Nat) (dn w : Bool) (tp we be co fi ro : Nat → Nat) (lg : Nat → Bool) (op : Option Nat)  : mtI l y_Mo_count b_Mo_count 2 (some .int) RM D cy [.ref (ad 0), .int (nI 1)] PM ad (mdC cy ad fl true tp tn w cp cb we be lg co fi bn op ro fo) (mdC cy ad 2 true tp tn w cp cb we be lg co fi bn op ro fo) (nI 0) := by
  intro sz
  refine nm_ofW (cc := b_Mo_count) (maxL := 2) (ret := (some .int)) (own := R_Mo) (by decide) (Nat.le_of_ble_eq_true rfl) rfl ?_
  intro p e s m below meth c ls F hr hlk hnm hv hl
  obtain ⟨hx, hb, hml, hown, hts⟩ := id F
  obtain ⟨rfl, hP, hK, hI⟩ := hv
  have hD : nd (na PM ad s.heap.size) PM ad := nd_self hI
  have hA : ∀ q, s.heap.size ≤ q → na PM ad s.heap.size q := fun q h => Or.inr h
  have hS : va_S (na PM ad s.heap.size) s.heap s.heap [] := va_S.rf
  have hl : lv_has ls 2 [(0, .ref (ad 0)), (1, .int (nI 1))] := hl
  refine lv_aload_n hx hb d_Mo_count_0 rfl (lv_at hl 0 rfl) ?_
  refine lv_iconst (v := nI 0) hx hb d_Mo_count_1 (by decide) ?_
  refine nw_put (D := D) (ci := 5) (C := R_Mo) (T := T_Mo) (N := 16) hx hb hts in_Mo ty_Mo tk_Mo nm_Mo hown hK.k hP hD hS (i := 0) (by decide) md_0 rfl 0 (by decide) (hts _ kf_Mo_38) rfl rfl rfl (Nat.le_of_ble_eq_true rfl) d_Mo_count_2 (fun H locs hP hS hz hq => ?_)
  have hP : nw D vcl PM ad (mdC cy ad 0 true tp tn w cp cb we be lg co fi bn op ro fo) H := nw_congr hP (mdu_fl)
  refine lv_iload_n hx hb d_Mo_count_5 rfl (lv_at hl 1 rfl) ?_
  refine lv_if_lt (tgt := 14) hx hb d_Mo_count_6 (by decide) (fun c6 => absurd c6 (nI_pos (by omega))) (fun c6 => ?_)
  refine lv_iload_n hx hb d_Mo_count_9 rfl (lv_at hl 1 rfl) ?_
  refine lv_iconst (v := nI 4) hx hb d_Mo_count_10 (by decide) ?_
  refine lv_icmp_le (tgt := 20) hx hb d_Mo_count_11 (by decide) (fun c11 => ?_) (fun c11 => absurd ((nI_leI (by omega) (by omega)).mpr (by omega)) c11)
  refine lv_aload_n hx hb d_Mo_count_20 rfl (lv_at hl 0 rfl) ?_
  refine nw_get (D := D) (ci := 5) (C := R_Mo) (T := T_Mo) (N := 16) hx hb hts in_Mo hown hK.k hP (i := 0) (by decide) md_0 rfl 1 (by decide) (hts _ kf_Mo_41) rfl d_Mo_count_21 ?_
  refine lv_if_eq (tgt := 38) hx hb d_Mo_count_24 (by decide) (fun c24 => absurd c24 (show ¬ bI true = 0 by decide)) (fun c24 => ?_)
  refine lv_iload_n hx hb d_Mo_count_27 rfl (lv_at hl 1 rfl) ?_
  refine lv_iconst (v := nI 2) hx hb d_Mo_count_28 (by decide) ?_
  refine lv_icmp_ge (tgt := 38) hx hb d_Mo_count_29 (by decide) (fun c29 => absurd c29 (fun z => absurd ((nI_leI (by omega) (by omega)).mp z) (by omega))) (fun c29 => ?_)
  refine lv_aload_n hx hb d_Mo_count_32 rfl (lv_at hl 0 rfl) ?_
  refine lv_iconst (v := nI 2) hx hb d_Mo_count_33 (by decide) ?_
  refine call_I (As := [.int (nI 2)]) (rest := []) F hK (c_Mo_fail l D cy ad 0 tn cp cb bn fo true w tp we be co fi ro lg op 2) km_Mo_45 ki_Mo_fail ks_Mo_fail k0_Mo kc_Mo_fail kd_Mo_fail ⟨Nat.le_of_ble_eq_true rfl, Nat.le_of_ble_eq_true rfl⟩ (nw_recv hK.k hP (i := 0) (by decide) md_0 rfl) (hP) (hI) hl.1 rfl (Nat.le_of_ble_eq_true rfl) d_Mo_count_34 ⟨(Nat.le_of_ble_eq_true rfl), (Nat.le_of_ble_eq_true rfl)⟩ hS (na_le hS) (fun H1 locs1 hP1 hk1 hS => ?_)
  have hP : nw D vcl PM ad (mdC cy ad 2 true tp tn w cp cb we be lg co fi bn op ro fo) H1 := hP1
  generalize H1 = H at hP hS ⊢
  exact end_I F hr hlk rfl hP hS d_Mo_count_37
set_option maxRecDepth 100000 in
set_option maxHeartbeats 4000000 in
theorem c_Mo_count0_0 (l : Launch) (D : va_G) (cy : Nat → ClassId) (ad : Nat → Nat) (fl tn cp cb bn fo : Nat) (dn w : Bool) (tp we be co fi ro : Nat → Nat) (lg : Nat → Bool) (op : Option Nat) (HQ : ∀ b, b < 24 → co b < 2 ^ 16) : mtI l y_Mo_count b_Mo_count 2 (some .int) RM D cy [.ref (ad 0), .int (nI 0)] PM ad (mdC cy ad fl false tp tn w cp cb we be lg co fi bn op ro fo) (mdC cy ad 0 false tp tn w cp cb we be lg co fi bn op ro fo) (nI (sumL lg co 24)) := by
  intro sz
  refine nm_ofW (cc := b_Mo_count) (maxL := 2) (ret := (some .int)) (own := R_Mo) (by decide) (Nat.le_of_ble_eq_true rfl) rfl ?_
  intro p e s m below meth c ls F hr hlk hnm hv hl
  obtain ⟨hx, hb, hml, hown, hts⟩ := id F
  obtain ⟨rfl, hP, hK, hI⟩ := hv
  have hD : nd (na PM ad s.heap.size) PM ad := nd_self hI
  have hA : ∀ q, s.heap.size ≤ q → na PM ad s.heap.size q := fun q h => Or.inr h
  have hS : va_S (na PM ad s.heap.size) s.heap s.heap [] := va_S.rf
  have hl : lv_has ls 2 [(0, .ref (ad 0)), (1, .int (nI 0))] := hl
  refine lv_aload_n hx hb d_Mo_count_0 rfl (lv_at hl 0 rfl) ?_
  refine lv_iconst (v := nI 0) hx hb d_Mo_count_1 (by decide) ?_
  refine nw_put (D := D) (ci := 5) (C := R_Mo) (T := T_Mo) (N := 16) hx hb hts in_Mo ty_Mo tk_Mo nm_Mo hown hK.k hP hD hS (i := 0) (by decide) md_0 rfl 0 (by decide) (hts _ kf_Mo_38) rfl rfl rfl (Nat.le_of_ble_eq_true rfl) d_Mo_count_2 (fun H locs hP hS hz hq => ?_)
  have hP : nw D vcl PM ad (mdC cy ad 0 false tp tn w cp cb we be lg co fi bn op ro fo) H := nw_congr hP (mdu_fl)
  refine lv_iload_n hx hb d_Mo_count_5 rfl (lv_at hl 1 rfl) ?_
  refine lv_if_lt (tgt := 14) hx hb d_Mo_count_6 (by decide) (fun c6 => absurd c6 (nI_pos (by omega))) (fun c6 => ?_)
  refine lv_iload_n hx hb d_Mo_count_9 rfl (lv_at hl 1 rfl) ?_
  refine lv_iconst (v := nI 4) hx hb d_Mo_count_10 (by decide) ?_
  refine lv_icmp_le (tgt := 20) hx hb d_Mo_count_11 (by decide) (fun c11 => ?_) (fun c11 => absurd ((nI_leI (by omega) (by omega)).mpr (by omega)) c11)
  refine lv_aload_n hx hb d_Mo_count_20 rfl (lv_at hl 0 rfl) ?_
  refine nw_get (D := D) (ci := 5) (C := R_Mo) (T := T_Mo) (N := 16) hx hb hts in_Mo hown hK.k hP (i := 0) (by decide) md_0 rfl 1 (by decide) (hts _ kf_Mo_41) rfl d_Mo_count_21 ?_
  refine lv_if_eq (tgt := 38) hx hb d_Mo_count_24 (by decide) (fun c24 => ?_) (fun c24 => absurd (show bI false = 0 by decide) c24)
  refine lv_iload_n hx hb d_Mo_count_38 rfl (lv_at hl 1 rfl) ?_
  refine lv_tableIn (tgt := 68) (off := 29) hx hb d_Mo_count_39 (by decide) (by decide) (by decide) (by decide) ?_
  refine lv_aload_n hx hb d_Mo_count_68 rfl (lv_at hl 0 rfl) ?_
  refine call_R (As := []) (rest := []) F hK (c_Mo_records l D cy ad 0 tn cp cb bn fo false w tp we be co fi ro lg op HQ) km_Mo_78 ki_Mo_records ks_Mo_records k0_Mo kc_Mo_records kd_Mo_records ⟨Nat.le_of_ble_eq_true rfl, Nat.le_of_ble_eq_true rfl⟩ (nw_recv hK.k hP (i := 0) (by decide) md_0 rfl) (hP) (hI) hl.1 rfl (Nat.le_of_ble_eq_true rfl) d_Mo_count_69 ⟨(Nat.le_of_ble_eq_true rfl), (Nat.le_of_ble_eq_true rfl)⟩ hS (fun H1 locs1 hN hS => ?_)
  have hP := hN _ _ _ hP
  generalize H1 = H at hP hS ⊢
  exact end_I F hr hlk rfl hP hS d_Mo_count_72
set_option maxRecDepth 100000 in
set_option maxHeartbeats 4000000 in
theorem c_Mo_count0_1 (l : Launch) (D : va_G) (cy : Nat → ClassId) (ad : Nat → Nat) (fl tn cp cb bn fo : Nat) (dn w : Bool) (tp we be co fi ro : Nat → Nat) (lg : Nat → Bool) (op : Option Nat)  : mtI l y_Mo_count b_Mo_count 2 (some .int) RM D cy [.ref (ad 0), .int (nI 1)] PM ad (mdC cy ad fl false tp tn w cp cb we be lg co fi bn op ro fo) (mdC cy ad 0 false tp tn w cp cb we be lg co fi bn op ro fo) (nI (cntL lg 24)) := by
  intro sz
  refine nm_ofW (cc := b_Mo_count) (maxL := 2) (ret := (some .int)) (own := R_Mo) (by decide) (Nat.le_of_ble_eq_true rfl) rfl ?_
  intro p e s m below meth c ls F hr hlk hnm hv hl
  obtain ⟨hx, hb, hml, hown, hts⟩ := id F
  obtain ⟨rfl, hP, hK, hI⟩ := hv
  have hD : nd (na PM ad s.heap.size) PM ad := nd_self hI
  have hA : ∀ q, s.heap.size ≤ q → na PM ad s.heap.size q := fun q h => Or.inr h
  have hS : va_S (na PM ad s.heap.size) s.heap s.heap [] := va_S.rf
  have hl : lv_has ls 2 [(0, .ref (ad 0)), (1, .int (nI 1))] := hl
  refine lv_aload_n hx hb d_Mo_count_0 rfl (lv_at hl 0 rfl) ?_
  refine lv_iconst (v := nI 0) hx hb d_Mo_count_1 (by decide) ?_
  refine nw_put (D := D) (ci := 5) (C := R_Mo) (T := T_Mo) (N := 16) hx hb hts in_Mo ty_Mo tk_Mo nm_Mo hown hK.k hP hD hS (i := 0) (by decide) md_0 rfl 0 (by decide) (hts _ kf_Mo_38) rfl rfl rfl (Nat.le_of_ble_eq_true rfl) d_Mo_count_2 (fun H locs hP hS hz hq => ?_)
  have hP : nw D vcl PM ad (mdC cy ad 0 false tp tn w cp cb we be lg co fi bn op ro fo) H := nw_congr hP (mdu_fl)
  refine lv_iload_n hx hb d_Mo_count_5 rfl (lv_at hl 1 rfl) ?_
  refine lv_if_lt (tgt := 14) hx hb d_Mo_count_6 (by decide) (fun c6 => absurd c6 (nI_pos (by omega))) (fun c6 => ?_)
  refine lv_iload_n hx hb d_Mo_count_9 rfl (lv_at hl 1 rfl) ?_
  refine lv_iconst (v := nI 4) hx hb d_Mo_count_10 (by decide) ?_
  refine lv_icmp_le (tgt := 20) hx hb d_Mo_count_11 (by decide) (fun c11 => ?_) (fun c11 => absurd ((nI_leI (by omega) (by omega)).mpr (by omega)) c11)
  refine lv_aload_n hx hb d_Mo_count_20 rfl (lv_at hl 0 rfl) ?_
  refine nw_get (D := D) (ci := 5) (C := R_Mo) (T := T_Mo) (N := 16) hx hb hts in_Mo hown hK.k hP (i := 0) (by decide) md_0 rfl 1 (by decide) (hts _ kf_Mo_41) rfl d_Mo_count_21 ?_
  refine lv_if_eq (tgt := 38) hx hb d_Mo_count_24 (by decide) (fun c24 => ?_) (fun c24 => absurd (show bI false = 0 by decide) c24)
  refine lv_iload_n hx hb d_Mo_count_38 rfl (lv_at hl 1 rfl) ?_
  refine lv_tableIn (tgt := 73) (off := 34) hx hb d_Mo_count_39 (by decide) (by decide) (by decide) (by decide) ?_
  refine lv_aload_n hx hb d_Mo_count_73 rfl (lv_at hl 0 rfl) ?_
  refine call_R (As := []) (rest := []) F hK (c_Mo_blocks l D cy ad 0 tn cp cb bn fo false w tp we be co fi ro lg op) km_Mo_67 ki_Mo_blocks ks_Mo_blocks k0_Mo kc_Mo_blocks kd_Mo_blocks ⟨Nat.le_of_ble_eq_true rfl, Nat.le_of_ble_eq_true rfl⟩ (nw_recv hK.k hP (i := 0) (by decide) md_0 rfl) (hP) (hI) hl.1 rfl (Nat.le_of_ble_eq_true rfl) d_Mo_count_74 ⟨(Nat.le_of_ble_eq_true rfl), (Nat.le_of_ble_eq_true rfl)⟩ hS (fun H1 locs1 hN hS => ?_)
  have hP := hN _ _ _ hP
  generalize H1 = H at hP hS ⊢
  exact end_I F hr hlk rfl hP hS d_Mo_count_77
set_option maxRecDepth 100000 in
set_option maxHeartbeats 4000000 in
theorem c_Mo_count0_2 (l : Launch) (D : va_G) (cy : Nat → ClassId) (ad : Nat → Nat) (fl tn cp cb bn fo : Nat) (dn w : Bool) (tp we be co fi ro : Nat → Nat) (lg : Nat → Bool) (op : Option Nat)  : mtI l y_Mo_count b_Mo_count 2 (some .int) RM D cy [.ref (ad 0), .int (nI 2)] PM ad (mdC cy ad fl dn tp tn w cp cb we be lg co fi bn op ro fo) (mdC cy ad 0 dn tp tn w cp cb we be lg co fi bn op ro fo) (bI dn) := by
  intro sz
  refine nm_ofW (cc := b_Mo_count) (maxL := 2) (ret := (some .int)) (own := R_Mo) (by decide) (Nat.le_of_ble_eq_true rfl) rfl ?_
  intro p e s m below meth c ls F hr hlk hnm hv hl
  obtain ⟨hx, hb, hml, hown, hts⟩ := id F
  obtain ⟨rfl, hP, hK, hI⟩ := hv
  have hD : nd (na PM ad s.heap.size) PM ad := nd_self hI
  have hA : ∀ q, s.heap.size ≤ q → na PM ad s.heap.size q := fun q h => Or.inr h
  have hS : va_S (na PM ad s.heap.size) s.heap s.heap [] := va_S.rf
  have hl : lv_has ls 2 [(0, .ref (ad 0)), (1, .int (nI 2))] := hl
  refine lv_aload_n hx hb d_Mo_count_0 rfl (lv_at hl 0 rfl) ?_
  refine lv_iconst (v := nI 0) hx hb d_Mo_count_1 (by decide) ?_
  refine nw_put (D := D) (ci := 5) (C := R_Mo) (T := T_Mo) (N := 16) hx hb hts in_Mo ty_Mo tk_Mo nm_Mo hown hK.k hP hD hS (i := 0) (by decide) md_0 rfl 0 (by decide) (hts _ kf_Mo_38) rfl rfl rfl (Nat.le_of_ble_eq_true rfl) d_Mo_count_2 (fun H locs hP hS hz hq => ?_)
  have hP : nw D vcl PM ad (mdC cy ad 0 dn tp tn w cp cb we be lg co fi bn op ro fo) H := nw_congr hP (mdu_fl)
  refine lv_iload_n hx hb d_Mo_count_5 rfl (lv_at hl 1 rfl) ?_
  refine lv_if_lt (tgt := 14) hx hb d_Mo_count_6 (by decide) (fun c6 => absurd c6 (nI_pos (by omega))) (fun c6 => ?_)
  refine lv_iload_n hx hb d_Mo_count_9 rfl (lv_at hl 1 rfl) ?_
  refine lv_iconst (v := nI 4) hx hb d_Mo_count_10 (by decide) ?_
  refine lv_icmp_le (tgt := 20) hx hb d_Mo_count_11 (by decide) (fun c11 => ?_) (fun c11 => absurd ((nI_leI (by omega) (by omega)).mpr (by omega)) c11)
  refine lv_aload_n hx hb d_Mo_count_20 rfl (lv_at hl 0 rfl) ?_
  refine nw_get (D := D) (ci := 5) (C := R_Mo) (T := T_Mo) (N := 16) hx hb hts in_Mo hown hK.k hP (i := 0) (by decide) md_0 rfl 1 (by decide) (hts _ kf_Mo_41) rfl d_Mo_count_21 ?_
  refine lv_if_eq (tgt := 38) hx hb d_Mo_count_24 (by decide) (fun c24 => ?_) (fun c24 => ?_)
  · have c24 := bI_eq0.mp c24
    refine lv_iload_n hx hb d_Mo_count_38 rfl (lv_at hl 1 rfl) ?_
    refine lv_tableIn (tgt := 78) (off := 39) hx hb d_Mo_count_39 (by decide) (by decide) (by decide) (by decide) ?_
    refine lv_aload_n hx hb d_Mo_count_78 rfl (lv_at hl 0 rfl) ?_
    refine nw_get (D := D) (ci := 5) (C := R_Mo) (T := T_Mo) (N := 16) hx hb hts in_Mo hown hK.k hP (i := 0) (by decide) md_0 rfl 1 (by decide) (hts _ kf_Mo_41) rfl d_Mo_count_79 ?_
    refine lv_if_eq (tgt := 89) hx hb d_Mo_count_82 (by decide) (fun c82 => ?_) (fun c82 => absurd (bI_eq0.mpr c24) c82)
    refine lv_iconst (v := nI 0) hx hb d_Mo_count_89 (by decide) ?_
    refine lv_eqi (y := bI dn) (by rw [c24]; rfl) ?_
    exact end_I F hr hlk rfl hP hS d_Mo_count_90
  · have c24 := mt bI_eq0.mpr c24
    refine lv_iload_n hx hb d_Mo_count_27 rfl (lv_at hl 1 rfl) ?_
    refine lv_iconst (v := nI 2) hx hb d_Mo_count_28 (by decide) ?_
    refine lv_icmp_ge (tgt := 38) hx hb d_Mo_count_29 (by decide) (fun c29 => ?_) (fun c29 => absurd ((nI_leI (by omega) (by omega)).mpr (by omega)) c29)
    refine lv_iload_n hx hb d_Mo_count_38 rfl (lv_at hl 1 rfl) ?_
    refine lv_tableIn (tgt := 78) (off := 39) hx hb d_Mo_count_39 (by decide) (by decide) (by decide) (by decide) ?_
    refine lv_aload_n hx hb d_Mo_count_78 rfl (lv_at hl 0 rfl) ?_
    refine nw_get (D := D) (ci := 5) (C := R_Mo) (T := T_Mo) (N := 16) hx hb hts in_Mo hown hK.k hP (i := 0) (by decide) md_0 rfl 1 (by decide) (hts _ kf_Mo_41) rfl d_Mo_count_79 ?_
    refine lv_if_eq (tgt := 89) hx hb d_Mo_count_82 (by decide) (fun c82 => absurd c82 (fun z => c24 (bI_eq0.mp z))) (fun c82 => ?_)
    refine lv_iconst (v := nI 1) hx hb d_Mo_count_85 (by decide) ?_
    refine lv_goto (tgt := 90) hx hb d_Mo_count_86 (by decide) ?_
    refine lv_eqi (y := bI dn) (by rw [show dn = true by simpa using c24]; rfl) ?_
    exact end_I F hr hlk rfl hP hS d_Mo_count_90
set_option maxRecDepth 100000 in
set_option maxHeartbeats 4000000 in
theorem c_Mo_count0_3 (l : Launch) (D : va_G) (cy : Nat → ClassId) (ad : Nat → Nat) (fl tn cp cb bn fo : Nat) (dn w : Bool) (tp we be co fi ro : Nat → Nat) (lg : Nat → Bool) (op : Option Nat)  : mtI l y_Mo_count b_Mo_count 2 (some .int) RM D cy [.ref (ad 0), .int (nI 3)] PM ad (mdC cy ad fl dn tp tn w cp cb we be lg co fi bn op ro fo) (mdC cy ad 0 dn tp tn w cp cb we be lg co fi bn op ro fo) (nI tn) := by
  intro sz
  refine nm_ofW (cc := b_Mo_count) (maxL := 2) (ret := (some .int)) (own := R_Mo) (by decide) (Nat.le_of_ble_eq_true rfl) rfl ?_
  intro p e s m below meth c ls F hr hlk hnm hv hl
  obtain ⟨hx, hb, hml, hown, hts⟩ := id F
  obtain ⟨rfl, hP, hK, hI⟩ := hv
  have hD : nd (na PM ad s.heap.size) PM ad := nd_self hI
  have hA : ∀ q, s.heap.size ≤ q → na PM ad s.heap.size q := fun q h => Or.inr h
  have hS : va_S (na PM ad s.heap.size) s.heap s.heap [] := va_S.rf
  have hl : lv_has ls 2 [(0, .ref (ad 0)), (1, .int (nI 3))] := hl
  refine lv_aload_n hx hb d_Mo_count_0 rfl (lv_at hl 0 rfl) ?_
  refine lv_iconst (v := nI 0) hx hb d_Mo_count_1 (by decide) ?_
  refine nw_put (D := D) (ci := 5) (C := R_Mo) (T := T_Mo) (N := 16) hx hb hts in_Mo ty_Mo tk_Mo nm_Mo hown hK.k hP hD hS (i := 0) (by decide) md_0 rfl 0 (by decide) (hts _ kf_Mo_38) rfl rfl rfl (Nat.le_of_ble_eq_true rfl) d_Mo_count_2 (fun H locs hP hS hz hq => ?_)
  have hP : nw D vcl PM ad (mdC cy ad 0 dn tp tn w cp cb we be lg co fi bn op ro fo) H := nw_congr hP (mdu_fl)
  refine lv_iload_n hx hb d_Mo_count_5 rfl (lv_at hl 1 rfl) ?_
  refine lv_if_lt (tgt := 14) hx hb d_Mo_count_6 (by decide) (fun c6 => absurd c6 (nI_pos (by omega))) (fun c6 => ?_)
  refine lv_iload_n hx hb d_Mo_count_9 rfl (lv_at hl 1 rfl) ?_
  refine lv_iconst (v := nI 4) hx hb d_Mo_count_10 (by decide) ?_
  refine lv_icmp_le (tgt := 20) hx hb d_Mo_count_11 (by decide) (fun c11 => ?_) (fun c11 => absurd ((nI_leI (by omega) (by omega)).mpr (by omega)) c11)
  refine lv_aload_n hx hb d_Mo_count_20 rfl (lv_at hl 0 rfl) ?_
  refine nw_get (D := D) (ci := 5) (C := R_Mo) (T := T_Mo) (N := 16) hx hb hts in_Mo hown hK.k hP (i := 0) (by decide) md_0 rfl 1 (by decide) (hts _ kf_Mo_41) rfl d_Mo_count_21 ?_
  refine lv_if_eq (tgt := 38) hx hb d_Mo_count_24 (by decide) (fun c24 => ?_) (fun c24 => ?_)
  · have c24 := bI_eq0.mp c24
    refine lv_iload_n hx hb d_Mo_count_38 rfl (lv_at hl 1 rfl) ?_
    refine lv_tableIn (tgt := 91) (off := 52) hx hb d_Mo_count_39 (by decide) (by decide) (by decide) (by decide) ?_
    refine lv_aload_n hx hb d_Mo_count_91 rfl (lv_at hl 0 rfl) ?_
    refine nw_get (D := D) (ci := 5) (C := R_Mo) (T := T_Mo) (N := 16) hx hb hts in_Mo hown hK.k hP (i := 0) (by decide) md_0 rfl 3 (by decide) (hts _ kf_Mo_49) rfl d_Mo_count_92 ?_
    exact end_I F hr hlk rfl hP hS d_Mo_count_95
  · have c24 := mt bI_eq0.mpr c24
    refine lv_iload_n hx hb d_Mo_count_27 rfl (lv_at hl 1 rfl) ?_
    refine lv_iconst (v := nI 2) hx hb d_Mo_count_28 (by decide) ?_
    refine lv_icmp_ge (tgt := 38) hx hb d_Mo_count_29 (by decide) (fun c29 => ?_) (fun c29 => absurd ((nI_leI (by omega) (by omega)).mpr (by omega)) c29)
    refine lv_iload_n hx hb d_Mo_count_38 rfl (lv_at hl 1 rfl) ?_
    refine lv_tableIn (tgt := 91) (off := 52) hx hb d_Mo_count_39 (by decide) (by decide) (by decide) (by decide) ?_
    refine lv_aload_n hx hb d_Mo_count_91 rfl (lv_at hl 0 rfl) ?_
    refine nw_get (D := D) (ci := 5) (C := R_Mo) (T := T_Mo) (N := 16) hx hb hts in_Mo hown hK.k hP (i := 0) (by decide) md_0 rfl 3 (by decide) (hts _ kf_Mo_49) rfl d_Mo_count_92 ?_
    exact end_I F hr hlk rfl hP hS d_Mo_count_95
set_option maxRecDepth 100000 in
set_option maxHeartbeats 4000000 in
theorem c_Mo_count0_4 (l : Launch) (D : va_G) (cy : Nat → ClassId) (ad : Nat → Nat) (fl tn cp cb bn fo : Nat) (dn w : Bool) (tp we be co fi ro : Nat → Nat) (lg : Nat → Bool) (op : Option Nat)  : mtI l y_Mo_count b_Mo_count 2 (some .int) RM D cy [.ref (ad 0), .int (nI 4)] PM ad (mdC cy ad fl dn tp tn w cp cb we be lg co fi bn op ro fo) (mdC cy ad 0 dn tp tn w cp cb we be lg co fi bn op ro fo) (nI 0) := by
  intro sz
  refine nm_ofW (cc := b_Mo_count) (maxL := 2) (ret := (some .int)) (own := R_Mo) (by decide) (Nat.le_of_ble_eq_true rfl) rfl ?_
  intro p e s m below meth c ls F hr hlk hnm hv hl
  obtain ⟨hx, hb, hml, hown, hts⟩ := id F
  obtain ⟨rfl, hP, hK, hI⟩ := hv
  have hD : nd (na PM ad s.heap.size) PM ad := nd_self hI
  have hA : ∀ q, s.heap.size ≤ q → na PM ad s.heap.size q := fun q h => Or.inr h
  have hS : va_S (na PM ad s.heap.size) s.heap s.heap [] := va_S.rf
  have hl : lv_has ls 2 [(0, .ref (ad 0)), (1, .int (nI 4))] := hl
  refine lv_aload_n hx hb d_Mo_count_0 rfl (lv_at hl 0 rfl) ?_
  refine lv_iconst (v := nI 0) hx hb d_Mo_count_1 (by decide) ?_
  refine nw_put (D := D) (ci := 5) (C := R_Mo) (T := T_Mo) (N := 16) hx hb hts in_Mo ty_Mo tk_Mo nm_Mo hown hK.k hP hD hS (i := 0) (by decide) md_0 rfl 0 (by decide) (hts _ kf_Mo_38) rfl rfl rfl (Nat.le_of_ble_eq_true rfl) d_Mo_count_2 (fun H locs hP hS hz hq => ?_)
  have hP : nw D vcl PM ad (mdC cy ad 0 dn tp tn w cp cb we be lg co fi bn op ro fo) H := nw_congr hP (mdu_fl)
  refine lv_iload_n hx hb d_Mo_count_5 rfl (lv_at hl 1 rfl) ?_
  refine lv_if_lt (tgt := 14) hx hb d_Mo_count_6 (by decide) (fun c6 => absurd c6 (nI_pos (by omega))) (fun c6 => ?_)
  refine lv_iload_n hx hb d_Mo_count_9 rfl (lv_at hl 1 rfl) ?_
  refine lv_iconst (v := nI 4) hx hb d_Mo_count_10 (by decide) ?_
  refine lv_icmp_le (tgt := 20) hx hb d_Mo_count_11 (by decide) (fun c11 => ?_) (fun c11 => absurd ((nI_leI (by omega) (by omega)).mpr (by omega)) c11)
  refine lv_aload_n hx hb d_Mo_count_20 rfl (lv_at hl 0 rfl) ?_
  refine nw_get (D := D) (ci := 5) (C := R_Mo) (T := T_Mo) (N := 16) hx hb hts in_Mo hown hK.k hP (i := 0) (by decide) md_0 rfl 1 (by decide) (hts _ kf_Mo_41) rfl d_Mo_count_21 ?_
  refine lv_if_eq (tgt := 38) hx hb d_Mo_count_24 (by decide) (fun c24 => ?_) (fun c24 => ?_)
  · have c24 := bI_eq0.mp c24
    refine lv_iload_n hx hb d_Mo_count_38 rfl (lv_at hl 1 rfl) ?_
    refine lv_tableOut (tgt := 96) hx hb d_Mo_count_39 (by decide) (by decide) ?_
    refine lv_iconst (v := nI 0) hx hb d_Mo_count_96 (by decide) ?_
    exact end_I F hr hlk rfl hP hS d_Mo_count_97
  · have c24 := mt bI_eq0.mpr c24
    refine lv_iload_n hx hb d_Mo_count_27 rfl (lv_at hl 1 rfl) ?_
    refine lv_iconst (v := nI 2) hx hb d_Mo_count_28 (by decide) ?_
    refine lv_icmp_ge (tgt := 38) hx hb d_Mo_count_29 (by decide) (fun c29 => ?_) (fun c29 => absurd ((nI_leI (by omega) (by omega)).mpr (by omega)) c29)
    refine lv_iload_n hx hb d_Mo_count_38 rfl (lv_at hl 1 rfl) ?_
    refine lv_tableOut (tgt := 96) hx hb d_Mo_count_39 (by decide) (by decide) ?_
    refine lv_iconst (v := nI 0) hx hb d_Mo_count_96 (by decide) ?_
    exact end_I F hr hlk rfl hP hS d_Mo_count_97

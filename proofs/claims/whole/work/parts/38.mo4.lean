/-! TornLogModel: take, append -/
theorem cutN_T {w : Bool} {cp cb z : Nat} (h : cutF w cp = false) : cutN w cp cb z = z := by
  unfold cutF at h
  unfold cutN
  rw [if_neg]
  intro h2
  rw [h2.1, h2.2] at h
  exact absurd h (by decide)
theorem cutN_F {w : Bool} {cp cb z : Nat} (h : cutF w cp = true) : cutN w cp cb z = min cb (z - 1) := by
  simp only [cutF, Bool.and_eq_true, decide_eq_true_eq] at h
  unfold cutN
  rw [if_pos h]
theorem c_Mo_partT (l : Launch) (D : va_G) (cy : Nat → ClassId) (ad : Nat → Nat) (fl tn cp cb bn fo : Nat) (dn w : Bool) (tp we be co fi ro : Nat → Nat) (lg : Nat → Bool) (op : Option Nat) (z : Nat) (hz : 0 < z) (hz1 : z < 2 ^ 31) (hc : cb < 2 ^ 31) (hp : cp < 2 ^ 31) (hF : cutF w cp = false) : mtI l y_Mo_part b_Mo_part 2 (some .int) { frames := 0, cells := 0, slots := 0, locals := 0 } D cy [.ref (ad 0), .int (nI z)] PM ad (mdC cy ad fl dn tp tn w cp cb we be lg co fi bn op ro fo) (mdC cy ad fl dn tp tn (cutW w cp) (cutP w cp) cb we be lg co fi bn op ro fo) (nI z) := by
  have q := c_Mo_part l D cy ad fl tn cp cb bn fo dn w tp we be co fi ro lg op z hz hz1 hc hp
  rw [cutN_T hF, hF] at q
  simp only [Bool.or_false, Bool.false_eq_true, if_false] at q
  exact q
theorem c_Mo_partF (l : Launch) (D : va_G) (cy : Nat → ClassId) (ad : Nat → Nat) (fl tn cp cb bn fo : Nat) (dn w : Bool) (tp we be co fi ro : Nat → Nat) (lg : Nat → Bool) (op : Option Nat) (z : Nat) (hz : 0 < z) (hz1 : z < 2 ^ 31) (hc : cb < 2 ^ 31) (hp : cp < 2 ^ 31) (hF : cutF w cp = true) : mtI l y_Mo_part b_Mo_part 2 (some .int) { frames := 0, cells := 0, slots := 0, locals := 0 } D cy [.ref (ad 0), .int (nI z)] PM ad (mdC cy ad fl dn tp tn w cp cb we be lg co fi bn op ro fo) (mdC cy ad fl true tp 0 (cutW w cp) (cutP w cp) cb we be lg co fi bn op ro fo) (nI (min cb (z - 1))) := by
  have q := c_Mo_part l D cy ad fl tn cp cb bn fo dn w tp we be co fi ro lg op z hz hz1 hc hp
  rw [cutN_F hF, hF] at q
  simp only [Bool.or_true, if_true] at q
  exact q
/-- a record in the model's rows, from a on: its first eight bytes, its content -/
def mRH (ro : Nat → Nat) (a kd k n : Nat) : Nat → Nat := va_up (va_up (va_up (va_up ro a kd) (a + 1) k) (a + 2) ((n - k) / 256)) (a + 3) ((n - k) % 256)
def mRM (ro : Nat → Nat) (a kd mo k n : Nat) : Nat → Nat := upN (mRH ro a kd k n) (a + 4) (fun i => nb (nI mo) (3 - i)) 4
def mRB (ro : Nat → Nat) (a kd mo k n : Nat) (tp : Nat → Nat) : Nat → Nat := upN (mRM ro a kd mo k n) (a + 9) tp n
theorem va_uu {α : Type} (f : Nat → α) (k : Nat) (x y : α) : va_up (va_up f k x) k y = va_up f k y := by
  funext j
  by_cases h : j = k <;> simp [va_up, h]
set_option maxRecDepth 100000 in
set_option maxHeartbeats 4000000 in
theorem c_Mo_take0 (l : Launch) (D : va_G) (cy : Nat → ClassId) (ad : Nat → Nat) (fl tn cp cb bn fo : Nat) (dn w : Bool) (tp we be co fi ro : Nat → Nat) (lg : Nat → Bool) (op : Option Nat) (hcp : cp < 2 ^ 31) (hcb : cb < 2 ^ 31) (HE : ∀ b, b < 24 → we b < 2 ^ 30) (hbn : bn < 2 ^ 30) (b : Nat) (hle : lea we lg 24 = some b) (hF : cutF w cp = true) : mtI l y_Mo_take b_Mo_take 3 (some .boolean) { frames := 1, cells := 0, slots := 0, locals := 21 } D cy [.ref (ad 0)] PM ad (mdC cy ad fl false tp tn w cp cb we be lg co fi bn op ro fo) (mdC cy ad fl true tp 0 (cutW w cp) (cutP w cp) cb (va_up we b (we b + 1)) (if 0 < min cb (2048 - 1) then va_up be b 0 else be) lg co fi bn op ro fo) (bI false) := by
  intro sz
  refine nm_ofW (cc := b_Mo_take) (maxL := 3) (ret := (some .boolean)) (own := R_Mo) (by decide) (Nat.le_of_ble_eq_true rfl) rfl ?_
  intro p e s m below meth c ls F hr hlk hnm hv hl
  obtain ⟨hx, hb, hml, hown, hts⟩ := id F
  obtain ⟨rfl, hP, hK, hI⟩ := hv
  have hD : nd (na PM ad s.heap.size) PM ad := nd_self hI
  have hA : ∀ q, s.heap.size ≤ q → na PM ad s.heap.size q := fun q h => Or.inr h
  have hS : va_S (na PM ad s.heap.size) s.heap s.heap [] := va_S.rf
  have hl : lv_has ls 3 [(0, .ref (ad 0))] := hl
  have hb24 := lea_lt hle
  have hE0 := HE _ hb24
  refine lv_iconst (v := -1) hx hb d_Mo_take_0 (by decide) ?_
  refine lv_istore_n (lv' := [(1, .int (-1)), (0, .ref (ad 0))]) hx hb d_Mo_take_1 rfl hl (by decide) rfl (fun ls hl => ?_)
  refine lv_iconst (v := nI 0) hx hb d_Mo_take_2 (by decide) ?_
  refine lv_istore_n (lv' := [(2, .int (nI 0)), (1, .int (-1)), (0, .ref (ad 0))]) hx hb d_Mo_take_3 rfl hl (by decide) rfl (fun ls hl => ?_)
  have fin : ∀ (H : Heap) (locs : List Loc) (ls : Array Slot), nw D vcl PM ad (mdC cy ad fl false tp tn w cp cb we be lg co fi bn op ro fo) H → va_S (na PM ad s.heap.size) s.heap H locs → lv_has ls 3 [(1, .int (nI b)), (0, .ref (ad 0))] → W p l e { frames := 1, cells := 0, slots := 0, locals := 21 } s m [.ref (ad 0)].toArray below meth c H locs 0 0 (MQ below (va_Qi (fun r' (_ : Unit) => r' = bI false) (fun _ t => nw D vcl PM ad (mdC cy ad fl true tp 0 (cutW w cp) (cutP w cp) cb (va_up we b (we b + 1)) (if 0 < min cb (2048 - 1) then va_up be b 0 else be) lg co fi bn op ro fo) t.heap) (na PM ad s.heap.size)) [.ref (ad 0)].toArray s 0 0 (na PM ad s.heap.size)) (F0 m 46 ls []) := by
    intro H locs ls hP hS hl
    refine lv_aload_n hx hb d_Mo_take_46 rfl (lv_at hl 1 rfl) ?_
    refine lv_sipush (v := nI 2048) hx hb d_Mo_take_47 (by decide) ?_
    refine call_I (As := [.int (nI 2048)]) (rest := []) F hK (c_Mo_partF l D cy ad fl tn cp cb bn fo false w tp we be co fi ro lg op 2048 (by omega) (by omega) hcb hcp hF) km_Mo_61 ki_Mo_part ks_Mo_part k0_Mo kc_Mo_part kd_Mo_part ⟨Nat.le_of_ble_eq_true rfl, Nat.le_of_ble_eq_true rfl⟩ (nw_recv hK.k hP (i := 0) (by decide) md_0 rfl) (hP) (hI) hl.1 rfl (Nat.le_of_ble_eq_true rfl) d_Mo_take_50 ⟨(Nat.le_of_ble_eq_true rfl), (Nat.le_of_ble_eq_true rfl)⟩ hS (na_le hS) (fun H1 locs1 hP1 hk1 hS => ?_)
    have hP : nw D vcl PM ad (mdC cy ad fl true tp 0 (cutW w cp) (cutP w cp) cb we be lg co fi bn op ro fo) H1 := hP1
    generalize H1 = H at hP hS ⊢
    refine lv_istore_n (lv' := [(2, .int (nI (min cb (2048 - 1)))), (1, .int (nI b)), (0, .ref (ad 0))]) hx hb d_Mo_take_53 rfl hl (by decide) rfl (fun ls hl => ?_)
    refine lv_aload_n hx hb d_Mo_take_54 rfl (lv_at hl 2 rfl) ?_
    refine nw_get (D := D) (ci := 5) (C := R_Mo) (T := T_Mo) (N := 16) hx hb hts in_Mo hown hK.k hP (i := 0) (by decide) md_0 rfl 7 (by decide) (hts _ kf_Mo_13) rfl d_Mo_take_55 ?_
    refine lv_iload_n hx hb d_Mo_take_58 rfl (lv_at hl 1 rfl) ?_
    refine lv_dup2_11 hx hb d_Mo_take_59 rfl rfl ?_
    refine nw_iald hx hb hK.k hP (i := 2) (by decide) md_2 1 rfl (vp_in_nI (by omega) (by omega)) d_Mo_take_60 ?_
    refine lv_eqi (y := nI (we b)) (by rw [nI_clamp (by omega)]) ?_
    refine lv_iconst (v := nI 1) hx hb d_Mo_take_61 (by decide) ?_
    refine lv_iadd hx hb d_Mo_take_62 ?_
    refine lv_eqi (nI_add _ _) ?_
    refine nw_iast hx hb hK.k hP hD hS (i := 2) (by decide) md_2 1 rfl (vp_in_nI (by omega) (by omega)) d_Mo_take_63 (fun H locs hP hS hz hq => ?_)
    rw [nI_clamp (by omega), in_upd] at hP
    have hP : nw D vcl PM ad (mdC cy ad fl true tp 0 (cutW w cp) (cutP w cp) cb (va_up we b (we b + 1)) be lg co fi bn op ro fo) H := nw_congr hP (mdu_we)
    refine lv_iload_n hx hb d_Mo_take_64 rfl (lv_at hl 0 rfl) ?_
    refine lv_if_le (tgt := 75) hx hb d_Mo_take_65 (by decide) (fun c65 => ?_) (fun c65 => ?_)
    · have c65 := (nI_zl (by omega)).mp c65
      have hc0 : ¬ 0 < min cb (2048 - 1) := by omega
      rw [if_neg hc0]
      refine lv_aload_n hx hb d_Mo_take_75 rfl (lv_at hl 2 rfl) ?_
      refine nw_get (D := D) (ci := 5) (C := R_Mo) (T := T_Mo) (N := 16) hx hb hts in_Mo hown hK.k hP (i := 0) (by decide) md_0 rfl 1 (by decide) (hts _ kf_Mo_41) rfl d_Mo_take_76 ?_
      refine lv_if_ne (tgt := 93) hx hb d_Mo_take_79 (by decide) (fun c79 => ?_) (fun c79 => absurd c79 (by decide))
      refine lv_iconst (v := nI 0) hx hb d_Mo_take_93 (by decide) ?_
      exact end_I F hr hlk (bI_nar false) hP hS d_Mo_take_94
    · have c65 := mt (nI_zl (by omega)).mpr c65
      have hc0 : 0 < min cb (2048 - 1) := by omega
      rw [if_pos hc0]
      refine lv_aload_n hx hb d_Mo_take_68 rfl (lv_at hl 2 rfl) ?_
      refine nw_get (D := D) (ci := 5) (C := R_Mo) (T := T_Mo) (N := 16) hx hb hts in_Mo hown hK.k hP (i := 0) (by decide) md_0 rfl 8 (by decide) (hts _ kf_Mo_17) rfl d_Mo_take_69 ?_
      refine lv_iload_n hx hb d_Mo_take_72 rfl (lv_at hl 1 rfl) ?_
      refine lv_iconst (v := nI 0) hx hb d_Mo_take_73 (by decide) ?_
      refine nw_iast hx hb hK.k hP hD hS (i := 3) (by decide) md_3 1 rfl (vp_in_nI (by omega) (by omega)) d_Mo_take_74 (fun H locs hP hS hz hq => ?_)
      rw [nI_clamp (by omega), in_upd] at hP
      have hP : nw D vcl PM ad (mdC cy ad fl true tp 0 (cutW w cp) (cutP w cp) cb (va_up we b (we b + 1)) (va_up be b 0) lg co fi bn op ro fo) H := nw_congr hP (mdu_be)
      refine lv_aload_n hx hb d_Mo_take_75 rfl (lv_at hl 2 rfl) ?_
      refine nw_get (D := D) (ci := 5) (C := R_Mo) (T := T_Mo) (N := 16) hx hb hts in_Mo hown hK.k hP (i := 0) (by decide) md_0 rfl 1 (by decide) (hts _ kf_Mo_41) rfl d_Mo_take_76 ?_
      refine lv_if_ne (tgt := 93) hx hb d_Mo_take_79 (by decide) (fun c79 => ?_) (fun c79 => absurd c79 (by decide))
      refine lv_iconst (v := nI 0) hx hb d_Mo_take_93 (by decide) ?_
      exact end_I F hr hlk (bI_nar false) hP hS d_Mo_take_94
  have loop : ∀ (j i : Nat), i + j = 24 → ∀ (H : Heap) (locs : List Loc) (ls : Array Slot), nw D vcl PM ad (mdC cy ad fl false tp tn w cp cb we be lg co fi bn op ro fo) H → va_S (na PM ad s.heap.size) s.heap H locs → lv_has ls 3 [(2, .int (nI i)), (1, .int (oI (lea we lg i))), (0, .ref (ad 0))] → W p l e { frames := 1, cells := 0, slots := 0, locals := 21 } s m [.ref (ad 0)].toArray below meth c H locs 0 0 (MQ below (va_Qi (fun r' (_ : Unit) => r' = bI false) (fun _ t => nw D vcl PM ad (mdC cy ad fl true tp 0 (cutW w cp) (cutP w cp) cb (va_up we b (we b + 1)) (if 0 < min cb (2048 - 1) then va_up be b 0 else be) lg co fi bn op ro fo) t.heap) (na PM ad s.heap.size)) [.ref (ad 0)].toArray s 0 0 (na PM ad s.heap.size)) (F0 m 4 ls []) := by
    intro j
    induction j with
    | zero =>
      intro i hi H locs ls hP hS hl
      obtain rfl : i = 24 := by omega
      refine lv_iload_n hx hb d_Mo_take_4 rfl (lv_at hl 0 rfl) ?_
      refine lv_bipush (v := nI 24) hx hb d_Mo_take_5 (by decide) ?_
      refine lv_icmp_ge (tgt := 46) hx hb d_Mo_take_7 (by decide) (fun c7 => ?_) (fun c7 => absurd ((nI_leI (by omega) (by omega)).mpr (by omega)) c7)
      rw [hle] at hl
      exact fin _ _ _ hP hS (lv_sub hl [1, 2] rfl)
    | succ j ih =>
      intro i hi H locs ls hP hS hl
      refine lv_iload_n hx hb d_Mo_take_4 rfl (lv_at hl 0 rfl) ?_
      refine lv_bipush (v := nI 24) hx hb d_Mo_take_5 (by decide) ?_
      refine lv_icmp_ge (tgt := 46) hx hb d_Mo_take_7 (by decide) (fun c7 => absurd c7 (fun z => absurd ((nI_leI (by omega) (by omega)).mp z) (by omega))) (fun c7 => ?_)
      refine lv_aload_n hx hb d_Mo_take_10 rfl (lv_at hl 2 rfl) ?_
      refine nw_get (D := D) (ci := 5) (C := R_Mo) (T := T_Mo) (N := 16) hx hb hts in_Mo hown hK.k hP (i := 0) (by decide) md_0 rfl 9 (by decide) (hts _ kf_Mo_20) rfl d_Mo_take_11 ?_
      refine lv_iload_n hx hb d_Mo_take_14 rfl (lv_at hl 0 rfl) ?_
      refine nw_zald hx hb hK.k hP (i := 4) (by decide) md_4 2 rfl (vp_in_nI (by omega) (by omega)) d_Mo_take_15 ?_
      refine lv_eqi (y := bI (lg i)) (by rw [nI_clamp (by omega)]) ?_
      refine lv_if_ne (tgt := 40) hx hb d_Mo_take_16 (by decide) (fun c16 => ?_) (fun c16 => ?_)
      · have c16 := mt bI_eq0.mpr c16
        have c16 : lg i = true := by simpa using c16
        have e1 : lea we lg (i + 1) = lea we lg i := by simp [lea, c16]
        refine lv_iinc (v := nI (i + 1)) (lv' := [(2, .int (nI (i + 1))), (1, .int (oI (lea we lg i))), (0, .ref (ad 0))]) hx hb d_Mo_take_40 hl (k := 0) rfl (nI_inc _) (by decide) rfl (fun ls hl => ?_)
        refine lv_goto (tgt := 4) hx hb d_Mo_take_43 (by decide) ?_
        rw [← e1] at hl
        exact ih (i + 1) (by omega) _ _ _ hP hS (lv_sub hl [0, 1, 2] rfl)
      · have c16 := bI_eq0.mp c16
        have c16 : lg i = false := by simpa using c16
        cases hl0 : lea we lg i with
        | none =>
          rw [hl0] at hl
          have e1 : lea we lg (i + 1) = some i := by simp [lea, c16, hl0]
          refine lv_iload_n hx hb d_Mo_take_19 rfl (lv_at hl 1 rfl) ?_
          refine lv_if_lt (tgt := 38) hx hb d_Mo_take_20 (by decide) (fun c20 => ?_) (fun c20 => absurd (show oI none < 0 by decide) c20)
          refine lv_iload_n hx hb d_Mo_take_38 rfl (lv_at hl 0 rfl) ?_
          refine lv_istore_n (lv' := [(1, .int (nI i)), (2, .int (nI i)), (0, .ref (ad 0))]) hx hb d_Mo_take_39 rfl hl (by decide) rfl (fun ls hl => ?_)
          refine lv_iinc (v := nI (i + 1)) (lv' := [(2, .int (nI (i + 1))), (1, .int (nI i)), (0, .ref (ad 0))]) hx hb d_Mo_take_40 hl (k := 1) rfl (nI_inc _) (by decide) rfl (fun ls hl => ?_)
          refine lv_goto (tgt := 4) hx hb d_Mo_take_43 (by decide) ?_
          have hl : lv_has ls 3 [(2, .int (nI (i + 1))), (1, .int (oI (lea we lg (i + 1)))), (0, .ref (ad 0))] := by rw [e1]; exact hl
          exact ih (i + 1) (by omega) _ _ _ hP hS (lv_sub hl [0, 1, 2] rfl)
        | some t =>
          have hb0 := lea_lt hl0
          have he0 := HE t (by omega)
          have he1 := HE i (by omega)
          rw [hl0] at hl
          have hl : lv_has ls 3 [(2, .int (nI i)), (1, .int (nI t)), (0, .ref (ad 0))] := hl
          refine lv_iload_n hx hb d_Mo_take_19 rfl (lv_at hl 1 rfl) ?_
          refine lv_if_lt (tgt := 38) hx hb d_Mo_take_20 (by decide) (fun c20 => absurd c20 (nI_pos (by omega))) (fun c20 => ?_)
          refine lv_aload_n hx hb d_Mo_take_23 rfl (lv_at hl 2 rfl) ?_
          refine nw_get (D := D) (ci := 5) (C := R_Mo) (T := T_Mo) (N := 16) hx hb hts in_Mo hown hK.k hP (i := 0) (by decide) md_0 rfl 7 (by decide) (hts _ kf_Mo_13) rfl d_Mo_take_24 ?_
          refine lv_iload_n hx hb d_Mo_take_27 rfl (lv_at hl 0 rfl) ?_
          refine nw_iald hx hb hK.k hP (i := 2) (by decide) md_2 1 rfl (vp_in_nI (by omega) (by omega)) d_Mo_take_28 ?_
          refine lv_eqi (y := nI (we i)) (by rw [nI_clamp (by omega)]) ?_
          refine lv_aload_n hx hb d_Mo_take_29 rfl (lv_at hl 2 rfl) ?_
          refine nw_get (D := D) (ci := 5) (C := R_Mo) (T := T_Mo) (N := 16) hx hb hts in_Mo hown hK.k hP (i := 0) (by decide) md_0 rfl 7 (by decide) (hts _ kf_Mo_13) rfl d_Mo_take_30 ?_
          refine lv_iload_n hx hb d_Mo_take_33 rfl (lv_at hl 1 rfl) ?_
          refine nw_iald hx hb hK.k hP (i := 2) (by decide) md_2 1 rfl (vp_in_nI (by omega) (by omega)) d_Mo_take_34 ?_
          refine lv_eqi (y := nI (we t)) (by rw [nI_clamp (by omega)]) ?_
          refine lv_icmp_ge (tgt := 40) hx hb d_Mo_take_35 (by decide) (fun c35 => ?_) (fun c35 => ?_)
          · have c35 := (nI_leI (by omega) (by omega)).mp c35
            have e1 : lea we lg (i + 1) = some t := by simp [lea, c16, hl0]; omega
            refine lv_iinc (v := nI (i + 1)) (lv' := [(2, .int (nI (i + 1))), (1, .int (nI t)), (0, .ref (ad 0))]) hx hb d_Mo_take_40 hl (k := 0) rfl (nI_inc _) (by decide) rfl (fun ls hl => ?_)
            refine lv_goto (tgt := 4) hx hb d_Mo_take_43 (by decide) ?_
            have hl : lv_has ls 3 [(2, .int (nI (i + 1))), (1, .int (oI (lea we lg (i + 1)))), (0, .ref (ad 0))] := by rw [e1]; exact hl
            exact ih (i + 1) (by omega) _ _ _ hP hS (lv_sub hl [0, 1, 2] rfl)
          · have c35 := mt (nI_leI (by omega) (by omega)).mpr c35
            have e1 : lea we lg (i + 1) = some i := by simp [lea, c16, hl0]; omega
            refine lv_iload_n hx hb d_Mo_take_38 rfl (lv_at hl 0 rfl) ?_
            refine lv_istore_n (lv' := [(1, .int (nI i)), (2, .int (nI i)), (0, .ref (ad 0))]) hx hb d_Mo_take_39 rfl hl (by decide) rfl (fun ls hl => ?_)
            refine lv_iinc (v := nI (i + 1)) (lv' := [(2, .int (nI (i + 1))), (1, .int (nI i)), (0, .ref (ad 0))]) hx hb d_Mo_take_40 hl (k := 1) rfl (nI_inc _) (by decide) rfl (fun ls hl => ?_)
            refine lv_goto (tgt := 4) hx hb d_Mo_take_43 (by decide) ?_
            have hl : lv_has ls 3 [(2, .int (nI (i + 1))), (1, .int (oI (lea we lg (i + 1)))), (0, .ref (ad 0))] := by rw [e1]; exact hl
            exact ih (i + 1) (by omega) _ _ _ hP hS (lv_sub hl [0, 1, 2] rfl)
  exact loop 24 0 (by omega) _ _ _ hP hS (lv_sub hl [0, 1, 2] rfl)
set_option maxRecDepth 100000 in
set_option maxHeartbeats 4000000 in
theorem c_Mo_take1 (l : Launch) (D : va_G) (cy : Nat → ClassId) (ad : Nat → Nat) (fl tn cp cb bn fo : Nat) (dn w : Bool) (tp we be co fi ro : Nat → Nat) (lg : Nat → Bool) (op : Option Nat) (hcp : cp < 2 ^ 31) (hcb : cb < 2 ^ 31) (HE : ∀ b, b < 24 → we b < 2 ^ 30) (hbn : bn < 2 ^ 30) (b : Nat) (hle : lea we lg 24 = some b) (hF : cutF w cp = false) (hF2 : cutF (cutW w cp) (cutP w cp) = true) : mtI l y_Mo_take b_Mo_take 3 (some .boolean) { frames := 1, cells := 0, slots := 0, locals := 21 } D cy [.ref (ad 0)] PM ad (mdC cy ad fl false tp tn w cp cb we be lg co fi bn op ro fo) (mdC cy ad fl true tp 0 (cutW (cutW w cp) (cutP w cp)) (cutP (cutW w cp) (cutP w cp)) cb (va_up we b (we b + 1)) (va_up be b 0) lg co fi bn op ro fo) (bI false) := by
  intro sz
  refine nm_ofW (cc := b_Mo_take) (maxL := 3) (ret := (some .boolean)) (own := R_Mo) (by decide) (Nat.le_of_ble_eq_true rfl) rfl ?_
  intro p e s m below meth c ls F hr hlk hnm hv hl
  obtain ⟨hx, hb, hml, hown, hts⟩ := id F
  obtain ⟨rfl, hP, hK, hI⟩ := hv
  have hD : nd (na PM ad s.heap.size) PM ad := nd_self hI
  have hA : ∀ q, s.heap.size ≤ q → na PM ad s.heap.size q := fun q h => Or.inr h
  have hS : va_S (na PM ad s.heap.size) s.heap s.heap [] := va_S.rf
  have hl : lv_has ls 3 [(0, .ref (ad 0))] := hl
  have hb24 := lea_lt hle
  have hE0 := HE _ hb24
  refine lv_iconst (v := -1) hx hb d_Mo_take_0 (by decide) ?_
  refine lv_istore_n (lv' := [(1, .int (-1)), (0, .ref (ad 0))]) hx hb d_Mo_take_1 rfl hl (by decide) rfl (fun ls hl => ?_)
  refine lv_iconst (v := nI 0) hx hb d_Mo_take_2 (by decide) ?_
  refine lv_istore_n (lv' := [(2, .int (nI 0)), (1, .int (-1)), (0, .ref (ad 0))]) hx hb d_Mo_take_3 rfl hl (by decide) rfl (fun ls hl => ?_)
  have fin : ∀ (H : Heap) (locs : List Loc) (ls : Array Slot), nw D vcl PM ad (mdC cy ad fl false tp tn w cp cb we be lg co fi bn op ro fo) H → va_S (na PM ad s.heap.size) s.heap H locs → lv_has ls 3 [(1, .int (nI b)), (0, .ref (ad 0))] → W p l e { frames := 1, cells := 0, slots := 0, locals := 21 } s m [.ref (ad 0)].toArray below meth c H locs 0 0 (MQ below (va_Qi (fun r' (_ : Unit) => r' = bI false) (fun _ t => nw D vcl PM ad (mdC cy ad fl true tp 0 (cutW (cutW w cp) (cutP w cp)) (cutP (cutW w cp) (cutP w cp)) cb (va_up we b (we b + 1)) (va_up be b 0) lg co fi bn op ro fo) t.heap) (na PM ad s.heap.size)) [.ref (ad 0)].toArray s 0 0 (na PM ad s.heap.size)) (F0 m 46 ls []) := by
    intro H locs ls hP hS hl
    refine lv_aload_n hx hb d_Mo_take_46 rfl (lv_at hl 1 rfl) ?_
    refine lv_sipush (v := nI 2048) hx hb d_Mo_take_47 (by decide) ?_
    refine call_I (As := [.int (nI 2048)]) (rest := []) F hK (c_Mo_partT l D cy ad fl tn cp cb bn fo false w tp we be co fi ro lg op 2048 (by omega) (by omega) hcb hcp hF) km_Mo_61 ki_Mo_part ks_Mo_part k0_Mo kc_Mo_part kd_Mo_part ⟨Nat.le_of_ble_eq_true rfl, Nat.le_of_ble_eq_true rfl⟩ (nw_recv hK.k hP (i := 0) (by decide) md_0 rfl) (hP) (hI) hl.1 rfl (Nat.le_of_ble_eq_true rfl) d_Mo_take_50 ⟨(Nat.le_of_ble_eq_true rfl), (Nat.le_of_ble_eq_true rfl)⟩ hS (na_le hS) (fun H1 locs1 hP1 hk1 hS => ?_)
    have hP : nw D vcl PM ad (mdC cy ad fl false tp tn (cutW w cp) (cutP w cp) cb we be lg co fi bn op ro fo) H1 := hP1
    generalize H1 = H at hP hS ⊢
    refine lv_istore_n (lv' := [(2, .int (nI 2048)), (1, .int (nI b)), (0, .ref (ad 0))]) hx hb d_Mo_take_53 rfl hl (by decide) rfl (fun ls hl => ?_)
    refine lv_aload_n hx hb d_Mo_take_54 rfl (lv_at hl 2 rfl) ?_
    refine nw_get (D := D) (ci := 5) (C := R_Mo) (T := T_Mo) (N := 16) hx hb hts in_Mo hown hK.k hP (i := 0) (by decide) md_0 rfl 7 (by decide) (hts _ kf_Mo_13) rfl d_Mo_take_55 ?_
    refine lv_iload_n hx hb d_Mo_take_58 rfl (lv_at hl 1 rfl) ?_
    refine lv_dup2_11 hx hb d_Mo_take_59 rfl rfl ?_
    refine nw_iald hx hb hK.k hP (i := 2) (by decide) md_2 1 rfl (vp_in_nI (by omega) (by omega)) d_Mo_take_60 ?_
    refine lv_eqi (y := nI (we b)) (by rw [nI_clamp (by omega)]) ?_
    refine lv_iconst (v := nI 1) hx hb d_Mo_take_61 (by decide) ?_
    refine lv_iadd hx hb d_Mo_take_62 ?_
    refine lv_eqi (nI_add _ _) ?_
    refine nw_iast hx hb hK.k hP hD hS (i := 2) (by decide) md_2 1 rfl (vp_in_nI (by omega) (by omega)) d_Mo_take_63 (fun H locs hP hS hz hq => ?_)
    rw [nI_clamp (by omega), in_upd] at hP
    have hP : nw D vcl PM ad (mdC cy ad fl false tp tn (cutW w cp) (cutP w cp) cb (va_up we b (we b + 1)) be lg co fi bn op ro fo) H := nw_congr hP (mdu_we)
    refine lv_iload_n hx hb d_Mo_take_64 rfl (lv_at hl 0 rfl) ?_
    refine lv_if_le (tgt := 75) hx hb d_Mo_take_65 (by decide) (fun c65 => absurd c65 (fun z => absurd ((nI_zl (by omega)).mp z) (by omega))) (fun c65 => ?_)
    refine lv_aload_n hx hb d_Mo_take_68 rfl (lv_at hl 2 rfl) ?_
    refine nw_get (D := D) (ci := 5) (C := R_Mo) (T := T_Mo) (N := 16) hx hb hts in_Mo hown hK.k hP (i := 0) (by decide) md_0 rfl 8 (by decide) (hts _ kf_Mo_17) rfl d_Mo_take_69 ?_
    refine lv_iload_n hx hb d_Mo_take_72 rfl (lv_at hl 1 rfl) ?_
    refine lv_iconst (v := nI 0) hx hb d_Mo_take_73 (by decide) ?_
    refine nw_iast hx hb hK.k hP hD hS (i := 3) (by decide) md_3 1 rfl (vp_in_nI (by omega) (by omega)) d_Mo_take_74 (fun H locs hP hS hz hq => ?_)
    rw [nI_clamp (by omega), in_upd] at hP
    have hP : nw D vcl PM ad (mdC cy ad fl false tp tn (cutW w cp) (cutP w cp) cb (va_up we b (we b + 1)) (va_up be b 0) lg co fi bn op ro fo) H := nw_congr hP (mdu_be)
    refine lv_aload_n hx hb d_Mo_take_75 rfl (lv_at hl 2 rfl) ?_
    refine nw_get (D := D) (ci := 5) (C := R_Mo) (T := T_Mo) (N := 16) hx hb hts in_Mo hown hK.k hP (i := 0) (by decide) md_0 rfl 1 (by decide) (hts _ kf_Mo_41) rfl d_Mo_take_76 ?_
    refine lv_if_ne (tgt := 93) hx hb d_Mo_take_79 (by decide) (fun c79 => absurd (show bI false = 0 by decide) c79) (fun c79 => ?_)
    refine lv_aload_n hx hb d_Mo_take_82 rfl (lv_at hl 2 rfl) ?_
    refine lv_bipush (v := nI 6) hx hb d_Mo_take_83 (by decide) ?_
    refine call_I (As := [.int (nI 6)]) (rest := []) F hK (c_Mo_partF l D cy ad fl tn (cutP w cp) cb bn fo false (cutW w cp) tp (va_up we b (we b + 1)) (va_up be b 0) co fi ro lg op 6 (by omega) (by omega) hcb (by unfold cutP; split <;> omega) hF2) km_Mo_61 ki_Mo_part ks_Mo_part k0_Mo kc_Mo_part kd_Mo_part ⟨Nat.le_of_ble_eq_true rfl, Nat.le_of_ble_eq_true rfl⟩ (nw_recv hK.k hP (i := 0) (by decide) md_0 rfl) (hP) (hI) hl.1 rfl (Nat.le_of_ble_eq_true rfl) d_Mo_take_85 ⟨(Nat.le_of_ble_eq_true rfl), (Nat.le_of_ble_eq_true rfl)⟩ hS (na_le hS) (fun H1 locs1 hP1 hk1 hS => ?_)
    have hP : nw D vcl PM ad (mdC cy ad fl true tp 0 (cutW (cutW w cp) (cutP w cp)) (cutP (cutW w cp) (cutP w cp)) cb (va_up we b (we b + 1)) (va_up be b 0) lg co fi bn op ro fo) H1 := hP1
    generalize H1 = H at hP hS ⊢
    refine lv_bipush (v := nI 6) hx hb d_Mo_take_88 (by decide) ?_
    refine lv_icmp_ge (tgt := 95) hx hb d_Mo_take_90 (by decide) (fun c90 => absurd c90 (fun z => absurd ((nI_leI (by omega) (by omega)).mp z) (by omega))) (fun c90 => ?_)
    refine lv_iconst (v := nI 0) hx hb d_Mo_take_93 (by decide) ?_
    exact end_I F hr hlk (bI_nar false) hP hS d_Mo_take_94
  have loop : ∀ (j i : Nat), i + j = 24 → ∀ (H : Heap) (locs : List Loc) (ls : Array Slot), nw D vcl PM ad (mdC cy ad fl false tp tn w cp cb we be lg co fi bn op ro fo) H → va_S (na PM ad s.heap.size) s.heap H locs → lv_has ls 3 [(2, .int (nI i)), (1, .int (oI (lea we lg i))), (0, .ref (ad 0))] → W p l e { frames := 1, cells := 0, slots := 0, locals := 21 } s m [.ref (ad 0)].toArray below meth c H locs 0 0 (MQ below (va_Qi (fun r' (_ : Unit) => r' = bI false) (fun _ t => nw D vcl PM ad (mdC cy ad fl true tp 0 (cutW (cutW w cp) (cutP w cp)) (cutP (cutW w cp) (cutP w cp)) cb (va_up we b (we b + 1)) (va_up be b 0) lg co fi bn op ro fo) t.heap) (na PM ad s.heap.size)) [.ref (ad 0)].toArray s 0 0 (na PM ad s.heap.size)) (F0 m 4 ls []) := by
    intro j
    induction j with
    | zero =>
      intro i hi H locs ls hP hS hl
      obtain rfl : i = 24 := by omega
      refine lv_iload_n hx hb d_Mo_take_4 rfl (lv_at hl 0 rfl) ?_
      refine lv_bipush (v := nI 24) hx hb d_Mo_take_5 (by decide) ?_
      refine lv_icmp_ge (tgt := 46) hx hb d_Mo_take_7 (by decide) (fun c7 => ?_) (fun c7 => absurd ((nI_leI (by omega) (by omega)).mpr (by omega)) c7)
      rw [hle] at hl
      exact fin _ _ _ hP hS (lv_sub hl [1, 2] rfl)
    | succ j ih =>
      intro i hi H locs ls hP hS hl
      refine lv_iload_n hx hb d_Mo_take_4 rfl (lv_at hl 0 rfl) ?_
      refine lv_bipush (v := nI 24) hx hb d_Mo_take_5 (by decide) ?_
      refine lv_icmp_ge (tgt := 46) hx hb d_Mo_take_7 (by decide) (fun c7 => absurd c7 (fun z => absurd ((nI_leI (by omega) (by omega)).mp z) (by omega))) (fun c7 => ?_)
      refine lv_aload_n hx hb d_Mo_take_10 rfl (lv_at hl 2 rfl) ?_
      refine nw_get (D := D) (ci := 5) (C := R_Mo) (T := T_Mo) (N := 16) hx hb hts in_Mo hown hK.k hP (i := 0) (by decide) md_0 rfl 9 (by decide) (hts _ kf_Mo_20) rfl d_Mo_take_11 ?_
      refine lv_iload_n hx hb d_Mo_take_14 rfl (lv_at hl 0 rfl) ?_
      refine nw_zald hx hb hK.k hP (i := 4) (by decide) md_4 2 rfl (vp_in_nI (by omega) (by omega)) d_Mo_take_15 ?_
      refine lv_eqi (y := bI (lg i)) (by rw [nI_clamp (by omega)]) ?_
      refine lv_if_ne (tgt := 40) hx hb d_Mo_take_16 (by decide) (fun c16 => ?_) (fun c16 => ?_)
      · have c16 := mt bI_eq0.mpr c16
        have c16 : lg i = true := by simpa using c16
        have e1 : lea we lg (i + 1) = lea we lg i := by simp [lea, c16]
        refine lv_iinc (v := nI (i + 1)) (lv' := [(2, .int (nI (i + 1))), (1, .int (oI (lea we lg i))), (0, .ref (ad 0))]) hx hb d_Mo_take_40 hl (k := 0) rfl (nI_inc _) (by decide) rfl (fun ls hl => ?_)
        refine lv_goto (tgt := 4) hx hb d_Mo_take_43 (by decide) ?_
        rw [← e1] at hl
        exact ih (i + 1) (by omega) _ _ _ hP hS (lv_sub hl [0, 1, 2] rfl)
      · have c16 := bI_eq0.mp c16
        have c16 : lg i = false := by simpa using c16
        cases hl0 : lea we lg i with
        | none =>
          rw [hl0] at hl
          have e1 : lea we lg (i + 1) = some i := by simp [lea, c16, hl0]
          refine lv_iload_n hx hb d_Mo_take_19 rfl (lv_at hl 1 rfl) ?_
          refine lv_if_lt (tgt := 38) hx hb d_Mo_take_20 (by decide) (fun c20 => ?_) (fun c20 => absurd (show oI none < 0 by decide) c20)
          refine lv_iload_n hx hb d_Mo_take_38 rfl (lv_at hl 0 rfl) ?_
          refine lv_istore_n (lv' := [(1, .int (nI i)), (2, .int (nI i)), (0, .ref (ad 0))]) hx hb d_Mo_take_39 rfl hl (by decide) rfl (fun ls hl => ?_)
          refine lv_iinc (v := nI (i + 1)) (lv' := [(2, .int (nI (i + 1))), (1, .int (nI i)), (0, .ref (ad 0))]) hx hb d_Mo_take_40 hl (k := 1) rfl (nI_inc _) (by decide) rfl (fun ls hl => ?_)
          refine lv_goto (tgt := 4) hx hb d_Mo_take_43 (by decide) ?_
          have hl : lv_has ls 3 [(2, .int (nI (i + 1))), (1, .int (oI (lea we lg (i + 1)))), (0, .ref (ad 0))] := by rw [e1]; exact hl
          exact ih (i + 1) (by omega) _ _ _ hP hS (lv_sub hl [0, 1, 2] rfl)
        | some t =>
          have hb0 := lea_lt hl0
          have he0 := HE t (by omega)
          have he1 := HE i (by omega)
          rw [hl0] at hl
          have hl : lv_has ls 3 [(2, .int (nI i)), (1, .int (nI t)), (0, .ref (ad 0))] := hl
          refine lv_iload_n hx hb d_Mo_take_19 rfl (lv_at hl 1 rfl) ?_
          refine lv_if_lt (tgt := 38) hx hb d_Mo_take_20 (by decide) (fun c20 => absurd c20 (nI_pos (by omega))) (fun c20 => ?_)
          refine lv_aload_n hx hb d_Mo_take_23 rfl (lv_at hl 2 rfl) ?_
          refine nw_get (D := D) (ci := 5) (C := R_Mo) (T := T_Mo) (N := 16) hx hb hts in_Mo hown hK.k hP (i := 0) (by decide) md_0 rfl 7 (by decide) (hts _ kf_Mo_13) rfl d_Mo_take_24 ?_
          refine lv_iload_n hx hb d_Mo_take_27 rfl (lv_at hl 0 rfl) ?_
          refine nw_iald hx hb hK.k hP (i := 2) (by decide) md_2 1 rfl (vp_in_nI (by omega) (by omega)) d_Mo_take_28 ?_
          refine lv_eqi (y := nI (we i)) (by rw [nI_clamp (by omega)]) ?_
          refine lv_aload_n hx hb d_Mo_take_29 rfl (lv_at hl 2 rfl) ?_
          refine nw_get (D := D) (ci := 5) (C := R_Mo) (T := T_Mo) (N := 16) hx hb hts in_Mo hown hK.k hP (i := 0) (by decide) md_0 rfl 7 (by decide) (hts _ kf_Mo_13) rfl d_Mo_take_30 ?_
          refine lv_iload_n hx hb d_Mo_take_33 rfl (lv_at hl 1 rfl) ?_
          refine nw_iald hx hb hK.k hP (i := 2) (by decide) md_2 1 rfl (vp_in_nI (by omega) (by omega)) d_Mo_take_34 ?_
          refine lv_eqi (y := nI (we t)) (by rw [nI_clamp (by omega)]) ?_
          refine lv_icmp_ge (tgt := 40) hx hb d_Mo_take_35 (by decide) (fun c35 => ?_) (fun c35 => ?_)
          · have c35 := (nI_leI (by omega) (by omega)).mp c35
            have e1 : lea we lg (i + 1) = some t := by simp [lea, c16, hl0]; omega
            refine lv_iinc (v := nI (i + 1)) (lv' := [(2, .int (nI (i + 1))), (1, .int (nI t)), (0, .ref (ad 0))]) hx hb d_Mo_take_40 hl (k := 0) rfl (nI_inc _) (by decide) rfl (fun ls hl => ?_)
            refine lv_goto (tgt := 4) hx hb d_Mo_take_43 (by decide) ?_
            have hl : lv_has ls 3 [(2, .int (nI (i + 1))), (1, .int (oI (lea we lg (i + 1)))), (0, .ref (ad 0))] := by rw [e1]; exact hl
            exact ih (i + 1) (by omega) _ _ _ hP hS (lv_sub hl [0, 1, 2] rfl)
          · have c35 := mt (nI_leI (by omega) (by omega)).mpr c35
            have e1 : lea we lg (i + 1) = some i := by simp [lea, c16, hl0]; omega
            refine lv_iload_n hx hb d_Mo_take_38 rfl (lv_at hl 0 rfl) ?_
            refine lv_istore_n (lv' := [(1, .int (nI i)), (2, .int (nI i)), (0, .ref (ad 0))]) hx hb d_Mo_take_39 rfl hl (by decide) rfl (fun ls hl => ?_)
            refine lv_iinc (v := nI (i + 1)) (lv' := [(2, .int (nI (i + 1))), (1, .int (nI i)), (0, .ref (ad 0))]) hx hb d_Mo_take_40 hl (k := 1) rfl (nI_inc _) (by decide) rfl (fun ls hl => ?_)
            refine lv_goto (tgt := 4) hx hb d_Mo_take_43 (by decide) ?_
            have hl : lv_has ls 3 [(2, .int (nI (i + 1))), (1, .int (oI (lea we lg (i + 1)))), (0, .ref (ad 0))] := by rw [e1]; exact hl
            exact ih (i + 1) (by omega) _ _ _ hP hS (lv_sub hl [0, 1, 2] rfl)
  exact loop 24 0 (by omega) _ _ _ hP hS (lv_sub hl [0, 1, 2] rfl)
set_option maxRecDepth 100000 in
set_option maxHeartbeats 4000000 in
theorem c_Mo_take2 (l : Launch) (D : va_G) (cy : Nat → ClassId) (ad : Nat → Nat) (fl tn cp cb bn fo : Nat) (dn w : Bool) (tp we be co fi ro : Nat → Nat) (lg : Nat → Bool) (op : Option Nat) (hcp : cp < 2 ^ 31) (hcb : cb < 2 ^ 31) (HE : ∀ b, b < 24 → we b < 2 ^ 30) (hbn : bn < 2 ^ 30) (b : Nat) (hle : lea we lg 24 = some b) (hF : cutF w cp = false) (hF2 : cutF (cutW w cp) (cutP w cp) = false) : mtI l y_Mo_take b_Mo_take 3 (some .boolean) { frames := 1, cells := 0, slots := 0, locals := 21 } D cy [.ref (ad 0)] PM ad (mdC cy ad fl false tp tn w cp cb we be lg co fi bn op ro fo) (mdC cy ad fl false tp tn (cutW (cutW w cp) (cutP w cp)) (cutP (cutW w cp) (cutP w cp)) cb (va_up we b (we b + 1)) (va_up be b (bn + 1)) (va_up lg b true) (va_up co b 0) (va_up fi b 0) (bn + 1) (some b) ro fo) (bI true) := by
  intro sz
  refine nm_ofW (cc := b_Mo_take) (maxL := 3) (ret := (some .boolean)) (own := R_Mo) (by decide) (Nat.le_of_ble_eq_true rfl) rfl ?_
  intro p e s m below meth c ls F hr hlk hnm hv hl
  obtain ⟨hx, hb, hml, hown, hts⟩ := id F
  obtain ⟨rfl, hP, hK, hI⟩ := hv
  have hD : nd (na PM ad s.heap.size) PM ad := nd_self hI
  have hA : ∀ q, s.heap.size ≤ q → na PM ad s.heap.size q := fun q h => Or.inr h
  have hS : va_S (na PM ad s.heap.size) s.heap s.heap [] := va_S.rf
  have hl : lv_has ls 3 [(0, .ref (ad 0))] := hl
  have hb24 := lea_lt hle
  have hE0 := HE _ hb24
  refine lv_iconst (v := -1) hx hb d_Mo_take_0 (by decide) ?_
  refine lv_istore_n (lv' := [(1, .int (-1)), (0, .ref (ad 0))]) hx hb d_Mo_take_1 rfl hl (by decide) rfl (fun ls hl => ?_)
  refine lv_iconst (v := nI 0) hx hb d_Mo_take_2 (by decide) ?_
  refine lv_istore_n (lv' := [(2, .int (nI 0)), (1, .int (-1)), (0, .ref (ad 0))]) hx hb d_Mo_take_3 rfl hl (by decide) rfl (fun ls hl => ?_)
  have fin : ∀ (H : Heap) (locs : List Loc) (ls : Array Slot), nw D vcl PM ad (mdC cy ad fl false tp tn w cp cb we be lg co fi bn op ro fo) H → va_S (na PM ad s.heap.size) s.heap H locs → lv_has ls 3 [(1, .int (nI b)), (0, .ref (ad 0))] → W p l e { frames := 1, cells := 0, slots := 0, locals := 21 } s m [.ref (ad 0)].toArray below meth c H locs 0 0 (MQ below (va_Qi (fun r' (_ : Unit) => r' = bI true) (fun _ t => nw D vcl PM ad (mdC cy ad fl false tp tn (cutW (cutW w cp) (cutP w cp)) (cutP (cutW w cp) (cutP w cp)) cb (va_up we b (we b + 1)) (va_up be b (bn + 1)) (va_up lg b true) (va_up co b 0) (va_up fi b 0) (bn + 1) (some b) ro fo) t.heap) (na PM ad s.heap.size)) [.ref (ad 0)].toArray s 0 0 (na PM ad s.heap.size)) (F0 m 46 ls []) := by
    intro H locs ls hP hS hl
    refine lv_aload_n hx hb d_Mo_take_46 rfl (lv_at hl 1 rfl) ?_
    refine lv_sipush (v := nI 2048) hx hb d_Mo_take_47 (by decide) ?_
    refine call_I (As := [.int (nI 2048)]) (rest := []) F hK (c_Mo_partT l D cy ad fl tn cp cb bn fo false w tp we be co fi ro lg op 2048 (by omega) (by omega) hcb hcp hF) km_Mo_61 ki_Mo_part ks_Mo_part k0_Mo kc_Mo_part kd_Mo_part ⟨Nat.le_of_ble_eq_true rfl, Nat.le_of_ble_eq_true rfl⟩ (nw_recv hK.k hP (i := 0) (by decide) md_0 rfl) (hP) (hI) hl.1 rfl (Nat.le_of_ble_eq_true rfl) d_Mo_take_50 ⟨(Nat.le_of_ble_eq_true rfl), (Nat.le_of_ble_eq_true rfl)⟩ hS (na_le hS) (fun H1 locs1 hP1 hk1 hS => ?_)
    have hP : nw D vcl PM ad (mdC cy ad fl false tp tn (cutW w cp) (cutP w cp) cb we be lg co fi bn op ro fo) H1 := hP1
    generalize H1 = H at hP hS ⊢
    refine lv_istore_n (lv' := [(2, .int (nI 2048)), (1, .int (nI b)), (0, .ref (ad 0))]) hx hb d_Mo_take_53 rfl hl (by decide) rfl (fun ls hl => ?_)
    refine lv_aload_n hx hb d_Mo_take_54 rfl (lv_at hl 2 rfl) ?_
    refine nw_get (D := D) (ci := 5) (C := R_Mo) (T := T_Mo) (N := 16) hx hb hts in_Mo hown hK.k hP (i := 0) (by decide) md_0 rfl 7 (by decide) (hts _ kf_Mo_13) rfl d_Mo_take_55 ?_
    refine lv_iload_n hx hb d_Mo_take_58 rfl (lv_at hl 1 rfl) ?_
    refine lv_dup2_11 hx hb d_Mo_take_59 rfl rfl ?_
    refine nw_iald hx hb hK.k hP (i := 2) (by decide) md_2 1 rfl (vp_in_nI (by omega) (by omega)) d_Mo_take_60 ?_
    refine lv_eqi (y := nI (we b)) (by rw [nI_clamp (by omega)]) ?_
    refine lv_iconst (v := nI 1) hx hb d_Mo_take_61 (by decide) ?_
    refine lv_iadd hx hb d_Mo_take_62 ?_
    refine lv_eqi (nI_add _ _) ?_
    refine nw_iast hx hb hK.k hP hD hS (i := 2) (by decide) md_2 1 rfl (vp_in_nI (by omega) (by omega)) d_Mo_take_63 (fun H locs hP hS hz hq => ?_)
    rw [nI_clamp (by omega), in_upd] at hP
    have hP : nw D vcl PM ad (mdC cy ad fl false tp tn (cutW w cp) (cutP w cp) cb (va_up we b (we b + 1)) be lg co fi bn op ro fo) H := nw_congr hP (mdu_we)
    refine lv_iload_n hx hb d_Mo_take_64 rfl (lv_at hl 0 rfl) ?_
    refine lv_if_le (tgt := 75) hx hb d_Mo_take_65 (by decide) (fun c65 => absurd c65 (fun z => absurd ((nI_zl (by omega)).mp z) (by omega))) (fun c65 => ?_)
    refine lv_aload_n hx hb d_Mo_take_68 rfl (lv_at hl 2 rfl) ?_
    refine nw_get (D := D) (ci := 5) (C := R_Mo) (T := T_Mo) (N := 16) hx hb hts in_Mo hown hK.k hP (i := 0) (by decide) md_0 rfl 8 (by decide) (hts _ kf_Mo_17) rfl d_Mo_take_69 ?_
    refine lv_iload_n hx hb d_Mo_take_72 rfl (lv_at hl 1 rfl) ?_
    refine lv_iconst (v := nI 0) hx hb d_Mo_take_73 (by decide) ?_
    refine nw_iast hx hb hK.k hP hD hS (i := 3) (by decide) md_3 1 rfl (vp_in_nI (by omega) (by omega)) d_Mo_take_74 (fun H locs hP hS hz hq => ?_)
    rw [nI_clamp (by omega), in_upd] at hP
    have hP : nw D vcl PM ad (mdC cy ad fl false tp tn (cutW w cp) (cutP w cp) cb (va_up we b (we b + 1)) (va_up be b 0) lg co fi bn op ro fo) H := nw_congr hP (mdu_be)
    refine lv_aload_n hx hb d_Mo_take_75 rfl (lv_at hl 2 rfl) ?_
    refine nw_get (D := D) (ci := 5) (C := R_Mo) (T := T_Mo) (N := 16) hx hb hts in_Mo hown hK.k hP (i := 0) (by decide) md_0 rfl 1 (by decide) (hts _ kf_Mo_41) rfl d_Mo_take_76 ?_
    refine lv_if_ne (tgt := 93) hx hb d_Mo_take_79 (by decide) (fun c79 => absurd (show bI false = 0 by decide) c79) (fun c79 => ?_)
    refine lv_aload_n hx hb d_Mo_take_82 rfl (lv_at hl 2 rfl) ?_
    refine lv_bipush (v := nI 6) hx hb d_Mo_take_83 (by decide) ?_
    refine call_I (As := [.int (nI 6)]) (rest := []) F hK (c_Mo_partT l D cy ad fl tn (cutP w cp) cb bn fo false (cutW w cp) tp (va_up we b (we b + 1)) (va_up be b 0) co fi ro lg op 6 (by omega) (by omega) hcb (by unfold cutP; split <;> omega) hF2) km_Mo_61 ki_Mo_part ks_Mo_part k0_Mo kc_Mo_part kd_Mo_part ⟨Nat.le_of_ble_eq_true rfl, Nat.le_of_ble_eq_true rfl⟩ (nw_recv hK.k hP (i := 0) (by decide) md_0 rfl) (hP) (hI) hl.1 rfl (Nat.le_of_ble_eq_true rfl) d_Mo_take_85 ⟨(Nat.le_of_ble_eq_true rfl), (Nat.le_of_ble_eq_true rfl)⟩ hS (na_le hS) (fun H1 locs1 hP1 hk1 hS => ?_)
    have hP : nw D vcl PM ad (mdC cy ad fl false tp tn (cutW (cutW w cp) (cutP w cp)) (cutP (cutW w cp) (cutP w cp)) cb (va_up we b (we b + 1)) (va_up be b 0) lg co fi bn op ro fo) H1 := hP1
    generalize H1 = H at hP hS ⊢
    refine lv_bipush (v := nI 6) hx hb d_Mo_take_88 (by decide) ?_
    refine lv_icmp_ge (tgt := 95) hx hb d_Mo_take_90 (by decide) (fun c90 => ?_) (fun c90 => absurd ((nI_leI (by omega) (by omega)).mpr (by omega)) c90)
    refine lv_aload_n hx hb d_Mo_take_95 rfl (lv_at hl 2 rfl) ?_
    refine lv_dup hx hb d_Mo_take_96 rfl ?_
    refine nw_get (D := D) (ci := 5) (C := R_Mo) (T := T_Mo) (N := 16) hx hb hts in_Mo hown hK.k hP (i := 0) (by decide) md_0 rfl 12 (by decide) (hts _ kf_Mo_64) rfl d_Mo_take_97 ?_
    refine lv_iconst (v := nI 1) hx hb d_Mo_take_100 (by decide) ?_
    refine lv_iadd hx hb d_Mo_take_101 ?_
    refine lv_eqi (nI_add _ _) ?_
    refine nw_put (D := D) (ci := 5) (C := R_Mo) (T := T_Mo) (N := 16) hx hb hts in_Mo ty_Mo tk_Mo nm_Mo hown hK.k hP hD hS (i := 0) (by decide) md_0 rfl 12 (by decide) (hts _ kf_Mo_64) rfl rfl rfl (Nat.le_of_ble_eq_true rfl) d_Mo_take_102 (fun H locs hP hS hz hq => ?_)
    have hP : nw D vcl PM ad (mdC cy ad fl false tp tn (cutW (cutW w cp) (cutP w cp)) (cutP (cutW w cp) (cutP w cp)) cb (va_up we b (we b + 1)) (va_up be b 0) lg co fi (bn + 1) op ro fo) H := nw_congr hP (mdu_bn)
    refine lv_aload_n hx hb d_Mo_take_105 rfl (lv_at hl 2 rfl) ?_
    refine nw_get (D := D) (ci := 5) (C := R_Mo) (T := T_Mo) (N := 16) hx hb hts in_Mo hown hK.k hP (i := 0) (by decide) md_0 rfl 8 (by decide) (hts _ kf_Mo_17) rfl d_Mo_take_106 ?_
    refine lv_iload_n hx hb d_Mo_take_109 rfl (lv_at hl 1 rfl) ?_
    refine lv_aload_n hx hb d_Mo_take_110 rfl (lv_at hl 2 rfl) ?_
    refine nw_get (D := D) (ci := 5) (C := R_Mo) (T := T_Mo) (N := 16) hx hb hts in_Mo hown hK.k hP (i := 0) (by decide) md_0 rfl 12 (by decide) (hts _ kf_Mo_64) rfl d_Mo_take_111 ?_
    refine nw_iast hx hb hK.k hP hD hS (i := 3) (by decide) md_3 1 rfl (vp_in_nI (by omega) (by omega)) d_Mo_take_114 (fun H locs hP hS hz hq => ?_)
    rw [nI_clamp (by omega), in_upd, va_uu] at hP
    have hP : nw D vcl PM ad (mdC cy ad fl false tp tn (cutW (cutW w cp) (cutP w cp)) (cutP (cutW w cp) (cutP w cp)) cb (va_up we b (we b + 1)) (va_up be b (bn + 1)) lg co fi (bn + 1) op ro fo) H := nw_congr hP (mdu_be)
    refine lv_aload_n hx hb d_Mo_take_115 rfl (lv_at hl 2 rfl) ?_
    refine nw_get (D := D) (ci := 5) (C := R_Mo) (T := T_Mo) (N := 16) hx hb hts in_Mo hown hK.k hP (i := 0) (by decide) md_0 rfl 9 (by decide) (hts _ kf_Mo_20) rfl d_Mo_take_116 ?_
    refine lv_iload_n hx hb d_Mo_take_119 rfl (lv_at hl 1 rfl) ?_
    refine lv_iconst (v := nI 1) hx hb d_Mo_take_120 (by decide) ?_
    refine lv_eqi (y := bI true) rfl ?_
    refine nw_zast hx hb hK.k hP hD hS (i := 4) (by decide) md_4 2 rfl (vp_in_nI (by omega) (by omega)) d_Mo_take_121 (fun H locs hP hS hz hq => ?_)
    rw [nI_clamp (by omega), zn_upd] at hP
    have hP : nw D vcl PM ad (mdC cy ad fl false tp tn (cutW (cutW w cp) (cutP w cp)) (cutP (cutW w cp) (cutP w cp)) cb (va_up we b (we b + 1)) (va_up be b (bn + 1)) (va_up lg b true) co fi (bn + 1) op ro fo) H := nw_congr hP (mdu_lg)
    refine lv_aload_n hx hb d_Mo_take_122 rfl (lv_at hl 2 rfl) ?_
    refine nw_get (D := D) (ci := 5) (C := R_Mo) (T := T_Mo) (N := 16) hx hb hts in_Mo hown hK.k hP (i := 0) (by decide) md_0 rfl 10 (by decide) (hts _ kf_Mo_24) rfl d_Mo_take_123 ?_
    refine lv_iload_n hx hb d_Mo_take_126 rfl (lv_at hl 1 rfl) ?_
    refine lv_iconst (v := nI 0) hx hb d_Mo_take_127 (by decide) ?_
    refine nw_iast hx hb hK.k hP hD hS (i := 5) (by decide) md_5 1 rfl (vp_in_nI (by omega) (by omega)) d_Mo_take_128 (fun H locs hP hS hz hq => ?_)
    rw [nI_clamp (by omega), in_upd] at hP
    have hP : nw D vcl PM ad (mdC cy ad fl false tp tn (cutW (cutW w cp) (cutP w cp)) (cutP (cutW w cp) (cutP w cp)) cb (va_up we b (we b + 1)) (va_up be b (bn + 1)) (va_up lg b true) (va_up co b 0) fi (bn + 1) op ro fo) H := nw_congr hP (mdu_co)
    refine lv_aload_n hx hb d_Mo_take_129 rfl (lv_at hl 2 rfl) ?_
    refine nw_get (D := D) (ci := 5) (C := R_Mo) (T := T_Mo) (N := 16) hx hb hts in_Mo hown hK.k hP (i := 0) (by decide) md_0 rfl 11 (by decide) (hts _ kf_Mo_27) rfl d_Mo_take_130 ?_
    refine lv_iload_n hx hb d_Mo_take_133 rfl (lv_at hl 1 rfl) ?_
    refine lv_iconst (v := nI 0) hx hb d_Mo_take_134 (by decide) ?_
    refine nw_iast hx hb hK.k hP hD hS (i := 6) (by decide) md_6 1 rfl (vp_in_nI (by omega) (by omega)) d_Mo_take_135 (fun H locs hP hS hz hq => ?_)
    rw [nI_clamp (by omega), in_upd] at hP
    have hP : nw D vcl PM ad (mdC cy ad fl false tp tn (cutW (cutW w cp) (cutP w cp)) (cutP (cutW w cp) (cutP w cp)) cb (va_up we b (we b + 1)) (va_up be b (bn + 1)) (va_up lg b true) (va_up co b 0) (va_up fi b 0) (bn + 1) op ro fo) H := nw_congr hP (mdu_fi)
    refine lv_aload_n hx hb d_Mo_take_136 rfl (lv_at hl 2 rfl) ?_
    refine lv_iload_n hx hb d_Mo_take_137 rfl (lv_at hl 1 rfl) ?_
    refine lv_eqi (y := oI (some b)) rfl ?_
    refine nw_put (D := D) (ci := 5) (C := R_Mo) (T := T_Mo) (N := 16) hx hb hts in_Mo ty_Mo tk_Mo nm_Mo hown hK.k hP hD hS (i := 0) (by decide) md_0 rfl 13 (by decide) (hts _ kf_Mo_30) rfl rfl rfl (Nat.le_of_ble_eq_true rfl) d_Mo_take_138 (fun H locs hP hS hz hq => ?_)
    have hP : nw D vcl PM ad (mdC cy ad fl false tp tn (cutW (cutW w cp) (cutP w cp)) (cutP (cutW w cp) (cutP w cp)) cb (va_up we b (we b + 1)) (va_up be b (bn + 1)) (va_up lg b true) (va_up co b 0) (va_up fi b 0) (bn + 1) (some b) ro fo) H := nw_congr hP (mdu_op)
    refine lv_iconst (v := nI 1) hx hb d_Mo_take_141 (by decide) ?_
    exact end_I F hr hlk (bI_nar true) hP hS d_Mo_take_142
  have loop : ∀ (j i : Nat), i + j = 24 → ∀ (H : Heap) (locs : List Loc) (ls : Array Slot), nw D vcl PM ad (mdC cy ad fl false tp tn w cp cb we be lg co fi bn op ro fo) H → va_S (na PM ad s.heap.size) s.heap H locs → lv_has ls 3 [(2, .int (nI i)), (1, .int (oI (lea we lg i))), (0, .ref (ad 0))] → W p l e { frames := 1, cells := 0, slots := 0, locals := 21 } s m [.ref (ad 0)].toArray below meth c H locs 0 0 (MQ below (va_Qi (fun r' (_ : Unit) => r' = bI true) (fun _ t => nw D vcl PM ad (mdC cy ad fl false tp tn (cutW (cutW w cp) (cutP w cp)) (cutP (cutW w cp) (cutP w cp)) cb (va_up we b (we b + 1)) (va_up be b (bn + 1)) (va_up lg b true) (va_up co b 0) (va_up fi b 0) (bn + 1) (some b) ro fo) t.heap) (na PM ad s.heap.size)) [.ref (ad 0)].toArray s 0 0 (na PM ad s.heap.size)) (F0 m 4 ls []) := by
    intro j
    induction j with
    | zero =>
      intro i hi H locs ls hP hS hl
      obtain rfl : i = 24 := by omega
      refine lv_iload_n hx hb d_Mo_take_4 rfl (lv_at hl 0 rfl) ?_
      refine lv_bipush (v := nI 24) hx hb d_Mo_take_5 (by decide) ?_
      refine lv_icmp_ge (tgt := 46) hx hb d_Mo_take_7 (by decide) (fun c7 => ?_) (fun c7 => absurd ((nI_leI (by omega) (by omega)).mpr (by omega)) c7)
      rw [hle] at hl
      exact fin _ _ _ hP hS (lv_sub hl [1, 2] rfl)
    | succ j ih =>
      intro i hi H locs ls hP hS hl
      refine lv_iload_n hx hb d_Mo_take_4 rfl (lv_at hl 0 rfl) ?_
      refine lv_bipush (v := nI 24) hx hb d_Mo_take_5 (by decide) ?_
      refine lv_icmp_ge (tgt := 46) hx hb d_Mo_take_7 (by decide) (fun c7 => absurd c7 (fun z => absurd ((nI_leI (by omega) (by omega)).mp z) (by omega))) (fun c7 => ?_)
      refine lv_aload_n hx hb d_Mo_take_10 rfl (lv_at hl 2 rfl) ?_
      refine nw_get (D := D) (ci := 5) (C := R_Mo) (T := T_Mo) (N := 16) hx hb hts in_Mo hown hK.k hP (i := 0) (by decide) md_0 rfl 9 (by decide) (hts _ kf_Mo_20) rfl d_Mo_take_11 ?_
      refine lv_iload_n hx hb d_Mo_take_14 rfl (lv_at hl 0 rfl) ?_
      refine nw_zald hx hb hK.k hP (i := 4) (by decide) md_4 2 rfl (vp_in_nI (by omega) (by omega)) d_Mo_take_15 ?_
      refine lv_eqi (y := bI (lg i)) (by rw [nI_clamp (by omega)]) ?_
      refine lv_if_ne (tgt := 40) hx hb d_Mo_take_16 (by decide) (fun c16 => ?_) (fun c16 => ?_)
      · have c16 := mt bI_eq0.mpr c16
        have c16 : lg i = true := by simpa using c16
        have e1 : lea we lg (i + 1) = lea we lg i := by simp [lea, c16]
        refine lv_iinc (v := nI (i + 1)) (lv' := [(2, .int (nI (i + 1))), (1, .int (oI (lea we lg i))), (0, .ref (ad 0))]) hx hb d_Mo_take_40 hl (k := 0) rfl (nI_inc _) (by decide) rfl (fun ls hl => ?_)
        refine lv_goto (tgt := 4) hx hb d_Mo_take_43 (by decide) ?_
        rw [← e1] at hl
        exact ih (i + 1) (by omega) _ _ _ hP hS (lv_sub hl [0, 1, 2] rfl)
      · have c16 := bI_eq0.mp c16
        have c16 : lg i = false := by simpa using c16
        cases hl0 : lea we lg i with
        | none =>
          rw [hl0] at hl
          have e1 : lea we lg (i + 1) = some i := by simp [lea, c16, hl0]
          refine lv_iload_n hx hb d_Mo_take_19 rfl (lv_at hl 1 rfl) ?_
          refine lv_if_lt (tgt := 38) hx hb d_Mo_take_20 (by decide) (fun c20 => ?_) (fun c20 => absurd (show oI none < 0 by decide) c20)
          refine lv_iload_n hx hb d_Mo_take_38 rfl (lv_at hl 0 rfl) ?_
          refine lv_istore_n (lv' := [(1, .int (nI i)), (2, .int (nI i)), (0, .ref (ad 0))]) hx hb d_Mo_take_39 rfl hl (by decide) rfl (fun ls hl => ?_)
          refine lv_iinc (v := nI (i + 1)) (lv' := [(2, .int (nI (i + 1))), (1, .int (nI i)), (0, .ref (ad 0))]) hx hb d_Mo_take_40 hl (k := 1) rfl (nI_inc _) (by decide) rfl (fun ls hl => ?_)
          refine lv_goto (tgt := 4) hx hb d_Mo_take_43 (by decide) ?_
          have hl : lv_has ls 3 [(2, .int (nI (i + 1))), (1, .int (oI (lea we lg (i + 1)))), (0, .ref (ad 0))] := by rw [e1]; exact hl
          exact ih (i + 1) (by omega) _ _ _ hP hS (lv_sub hl [0, 1, 2] rfl)
        | some t =>
          have hb0 := lea_lt hl0
          have he0 := HE t (by omega)
          have he1 := HE i (by omega)
          rw [hl0] at hl
          have hl : lv_has ls 3 [(2, .int (nI i)), (1, .int (nI t)), (0, .ref (ad 0))] := hl
          refine lv_iload_n hx hb d_Mo_take_19 rfl (lv_at hl 1 rfl) ?_
          refine lv_if_lt (tgt := 38) hx hb d_Mo_take_20 (by decide) (fun c20 => absurd c20 (nI_pos (by omega))) (fun c20 => ?_)
          refine lv_aload_n hx hb d_Mo_take_23 rfl (lv_at hl 2 rfl) ?_
          refine nw_get (D := D) (ci := 5) (C := R_Mo) (T := T_Mo) (N := 16) hx hb hts in_Mo hown hK.k hP (i := 0) (by decide) md_0 rfl 7 (by decide) (hts _ kf_Mo_13) rfl d_Mo_take_24 ?_
          refine lv_iload_n hx hb d_Mo_take_27 rfl (lv_at hl 0 rfl) ?_
          refine nw_iald hx hb hK.k hP (i := 2) (by decide) md_2 1 rfl (vp_in_nI (by omega) (by omega)) d_Mo_take_28 ?_
          refine lv_eqi (y := nI (we i)) (by rw [nI_clamp (by omega)]) ?_
          refine lv_aload_n hx hb d_Mo_take_29 rfl (lv_at hl 2 rfl) ?_
          refine nw_get (D := D) (ci := 5) (C := R_Mo) (T := T_Mo) (N := 16) hx hb hts in_Mo hown hK.k hP (i := 0) (by decide) md_0 rfl 7 (by decide) (hts _ kf_Mo_13) rfl d_Mo_take_30 ?_
          refine lv_iload_n hx hb d_Mo_take_33 rfl (lv_at hl 1 rfl) ?_
          refine nw_iald hx hb hK.k hP (i := 2) (by decide) md_2 1 rfl (vp_in_nI (by omega) (by omega)) d_Mo_take_34 ?_
          refine lv_eqi (y := nI (we t)) (by rw [nI_clamp (by omega)]) ?_
          refine lv_icmp_ge (tgt := 40) hx hb d_Mo_take_35 (by decide) (fun c35 => ?_) (fun c35 => ?_)
          · have c35 := (nI_leI (by omega) (by omega)).mp c35
            have e1 : lea we lg (i + 1) = some t := by simp [lea, c16, hl0]; omega
            refine lv_iinc (v := nI (i + 1)) (lv' := [(2, .int (nI (i + 1))), (1, .int (nI t)), (0, .ref (ad 0))]) hx hb d_Mo_take_40 hl (k := 0) rfl (nI_inc _) (by decide) rfl (fun ls hl => ?_)
            refine lv_goto (tgt := 4) hx hb d_Mo_take_43 (by decide) ?_
            have hl : lv_has ls 3 [(2, .int (nI (i + 1))), (1, .int (oI (lea we lg (i + 1)))), (0, .ref (ad 0))] := by rw [e1]; exact hl
            exact ih (i + 1) (by omega) _ _ _ hP hS (lv_sub hl [0, 1, 2] rfl)
          · have c35 := mt (nI_leI (by omega) (by omega)).mpr c35
            have e1 : lea we lg (i + 1) = some i := by simp [lea, c16, hl0]; omega
            refine lv_iload_n hx hb d_Mo_take_38 rfl (lv_at hl 0 rfl) ?_
            refine lv_istore_n (lv' := [(1, .int (nI i)), (2, .int (nI i)), (0, .ref (ad 0))]) hx hb d_Mo_take_39 rfl hl (by decide) rfl (fun ls hl => ?_)
            refine lv_iinc (v := nI (i + 1)) (lv' := [(2, .int (nI (i + 1))), (1, .int (nI i)), (0, .ref (ad 0))]) hx hb d_Mo_take_40 hl (k := 1) rfl (nI_inc _) (by decide) rfl (fun ls hl => ?_)
            refine lv_goto (tgt := 4) hx hb d_Mo_take_43 (by decide) ?_
            have hl : lv_has ls 3 [(2, .int (nI (i + 1))), (1, .int (oI (lea we lg (i + 1)))), (0, .ref (ad 0))] := by rw [e1]; exact hl
            exact ih (i + 1) (by omega) _ _ _ hP hS (lv_sub hl [0, 1, 2] rfl)
  exact loop 24 0 (by omega) _ _ _ hP hS (lv_sub hl [0, 1, 2] rfl)
set_option maxRecDepth 100000 in
set_option maxHeartbeats 4000000 in
theorem c_Mo_append1 (l : Launch) (D : va_G) (cy : Nat → ClassId) (ad : Nat → Nat) (fl tn cp cb bn fo : Nat) (dn w : Bool) (tp we be co fi ro : Nat → Nat) (lg : Nat → Bool) (op : Option Nat) (x y q : Int32) (h : x < nI 1 ∨ nI 15 < x ∨ y < 0 ∨ q < 0 ∨ nI 45 < q) : mtI l y_Mo_append b_Mo_append 8 (some .int) RM D cy [.ref (ad 0), .int (x), .int (y), .int (q)] PM ad (mdC cy ad fl dn tp tn w cp cb we be lg co fi bn op ro fo) (mdC cy ad 1 dn tp tn w cp cb we be lg co fi bn op ro fo) (nI 0) := by
  intro sz
  refine nm_ofW (cc := b_Mo_append) (maxL := 8) (ret := (some .int)) (own := R_Mo) (by decide) (Nat.le_of_ble_eq_true rfl) rfl ?_
  intro p e s m below meth c ls F hr hlk hnm hv hl
  obtain ⟨hx, hb, hml, hown, hts⟩ := id F
  obtain ⟨rfl, hP, hK, hI⟩ := hv
  have hD : nd (na PM ad s.heap.size) PM ad := nd_self hI
  have hA : ∀ q, s.heap.size ≤ q → na PM ad s.heap.size q := fun q h => Or.inr h
  have hS : va_S (na PM ad s.heap.size) s.heap s.heap [] := va_S.rf
  have hl : lv_has ls 8 [(0, .ref (ad 0)), (1, .int (x)), (2, .int (y)), (3, .int (q))] := hl
  refine lv_aload_n hx hb d_Mo_append_0 rfl (lv_at hl 0 rfl) ?_
  refine lv_iconst (v := nI 0) hx hb d_Mo_append_1 (by decide) ?_
  refine nw_put (D := D) (ci := 5) (C := R_Mo) (T := T_Mo) (N := 16) hx hb hts in_Mo ty_Mo tk_Mo nm_Mo hown hK.k hP hD hS (i := 0) (by decide) md_0 rfl 0 (by decide) (hts _ kf_Mo_38) rfl rfl rfl (Nat.le_of_ble_eq_true rfl) d_Mo_append_2 (fun H locs hP hS hz hq => ?_)
  have hP : nw D vcl PM ad (mdC cy ad 0 dn tp tn w cp cb we be lg co fi bn op ro fo) H := nw_congr hP (mdu_fl)
  refine lv_iload_n hx hb d_Mo_append_5 rfl (lv_at hl 1 rfl) ?_
  refine lv_iconst (v := nI 1) hx hb d_Mo_append_6 (by decide) ?_
  refine lv_icmp_lt (tgt := 50) hx hb d_Mo_append_7 (by decide) (fun c7 => ?_) (fun c7 => ?_)
  · refine lv_aload_n hx hb d_Mo_append_50 rfl (lv_at hl 0 rfl) ?_
    refine lv_iconst (v := nI 1) hx hb d_Mo_append_51 (by decide) ?_
    refine call_I (As := [.int (nI 1)]) (rest := []) F hK (c_Mo_fail l D cy ad 0 tn cp cb bn fo dn w tp we be co fi ro lg op 1) km_Mo_45 ki_Mo_fail ks_Mo_fail k0_Mo kc_Mo_fail kd_Mo_fail ⟨Nat.le_of_ble_eq_true rfl, Nat.le_of_ble_eq_true rfl⟩ (nw_recv hK.k hP (i := 0) (by decide) md_0 rfl) (hP) (hI) hl.1 rfl (Nat.le_of_ble_eq_true rfl) d_Mo_append_52 ⟨(Nat.le_of_ble_eq_true rfl), (Nat.le_of_ble_eq_true rfl)⟩ hS (na_le hS) (fun H1 locs1 hP1 hk1 hS => ?_)
    have hP : nw D vcl PM ad (mdC cy ad 1 dn tp tn w cp cb we be lg co fi bn op ro fo) H1 := hP1
    generalize H1 = H at hP hS ⊢
    exact end_I F hr hlk rfl hP hS d_Mo_append_55
  · refine lv_iload_n hx hb d_Mo_append_10 rfl (lv_at hl 1 rfl) ?_
    refine lv_bipush (v := nI 15) hx hb d_Mo_append_11 (by decide) ?_
    refine lv_icmp_gt (tgt := 50) hx hb d_Mo_append_13 (by decide) (fun c13 => ?_) (fun c13 => ?_)
    · refine lv_aload_n hx hb d_Mo_append_50 rfl (lv_at hl 0 rfl) ?_
      refine lv_iconst (v := nI 1) hx hb d_Mo_append_51 (by decide) ?_
      refine call_I (As := [.int (nI 1)]) (rest := []) F hK (c_Mo_fail l D cy ad 0 tn cp cb bn fo dn w tp we be co fi ro lg op 1) km_Mo_45 ki_Mo_fail ks_Mo_fail k0_Mo kc_Mo_fail kd_Mo_fail ⟨Nat.le_of_ble_eq_true rfl, Nat.le_of_ble_eq_true rfl⟩ (nw_recv hK.k hP (i := 0) (by decide) md_0 rfl) (hP) (hI) hl.1 rfl (Nat.le_of_ble_eq_true rfl) d_Mo_append_52 ⟨(Nat.le_of_ble_eq_true rfl), (Nat.le_of_ble_eq_true rfl)⟩ hS (na_le hS) (fun H1 locs1 hP1 hk1 hS => ?_)
      have hP : nw D vcl PM ad (mdC cy ad 1 dn tp tn w cp cb we be lg co fi bn op ro fo) H1 := hP1
      generalize H1 = H at hP hS ⊢
      exact end_I F hr hlk rfl hP hS d_Mo_append_55
    · refine lv_iload_n hx hb d_Mo_append_16 rfl (lv_at hl 2 rfl) ?_
      refine lv_if_lt (tgt := 50) hx hb d_Mo_append_17 (by decide) (fun c17 => ?_) (fun c17 => ?_)
      · refine lv_aload_n hx hb d_Mo_append_50 rfl (lv_at hl 0 rfl) ?_
        refine lv_iconst (v := nI 1) hx hb d_Mo_append_51 (by decide) ?_
        refine call_I (As := [.int (nI 1)]) (rest := []) F hK (c_Mo_fail l D cy ad 0 tn cp cb bn fo dn w tp we be co fi ro lg op 1) km_Mo_45 ki_Mo_fail ks_Mo_fail k0_Mo kc_Mo_fail kd_Mo_fail ⟨Nat.le_of_ble_eq_true rfl, Nat.le_of_ble_eq_true rfl⟩ (nw_recv hK.k hP (i := 0) (by decide) md_0 rfl) (hP) (hI) hl.1 rfl (Nat.le_of_ble_eq_true rfl) d_Mo_append_52 ⟨(Nat.le_of_ble_eq_true rfl), (Nat.le_of_ble_eq_true rfl)⟩ hS (na_le hS) (fun H1 locs1 hP1 hk1 hS => ?_)
        have hP : nw D vcl PM ad (mdC cy ad 1 dn tp tn w cp cb we be lg co fi bn op ro fo) H1 := hP1
        generalize H1 = H at hP hS ⊢
        exact end_I F hr hlk rfl hP hS d_Mo_append_55
      · refine lv_iload_n hx hb d_Mo_append_20 rfl (lv_at hl 3 rfl) ?_
        refine lv_if_lt (tgt := 50) hx hb d_Mo_append_21 (by decide) (fun c21 => ?_) (fun c21 => ?_)
        · refine lv_aload_n hx hb d_Mo_append_50 rfl (lv_at hl 0 rfl) ?_
          refine lv_iconst (v := nI 1) hx hb d_Mo_append_51 (by decide) ?_
          refine call_I (As := [.int (nI 1)]) (rest := []) F hK (c_Mo_fail l D cy ad 0 tn cp cb bn fo dn w tp we be co fi ro lg op 1) km_Mo_45 ki_Mo_fail ks_Mo_fail k0_Mo kc_Mo_fail kd_Mo_fail ⟨Nat.le_of_ble_eq_true rfl, Nat.le_of_ble_eq_true rfl⟩ (nw_recv hK.k hP (i := 0) (by decide) md_0 rfl) (hP) (hI) hl.1 rfl (Nat.le_of_ble_eq_true rfl) d_Mo_append_52 ⟨(Nat.le_of_ble_eq_true rfl), (Nat.le_of_ble_eq_true rfl)⟩ hS (na_le hS) (fun H1 locs1 hP1 hk1 hS => ?_)
          have hP : nw D vcl PM ad (mdC cy ad 1 dn tp tn w cp cb we be lg co fi bn op ro fo) H1 := hP1
          generalize H1 = H at hP hS ⊢
          exact end_I F hr hlk rfl hP hS d_Mo_append_55
        · refine lv_iload_n hx hb d_Mo_append_24 rfl (lv_at hl 3 rfl) ?_
          refine lv_bipush (v := nI 45) hx hb d_Mo_append_25 (by decide) ?_
          refine lv_icmp_gt (tgt := 50) hx hb d_Mo_append_27 (by decide) (fun c27 => ?_) (fun c27 => absurd (((((h.resolve_left c7).resolve_left c13).resolve_left c17).resolve_left c21)) c27)
          refine lv_aload_n hx hb d_Mo_append_50 rfl (lv_at hl 0 rfl) ?_
          refine lv_iconst (v := nI 1) hx hb d_Mo_append_51 (by decide) ?_
          refine call_I (As := [.int (nI 1)]) (rest := []) F hK (c_Mo_fail l D cy ad 0 tn cp cb bn fo dn w tp we be co fi ro lg op 1) km_Mo_45 ki_Mo_fail ks_Mo_fail k0_Mo kc_Mo_fail kd_Mo_fail ⟨Nat.le_of_ble_eq_true rfl, Nat.le_of_ble_eq_true rfl⟩ (nw_recv hK.k hP (i := 0) (by decide) md_0 rfl) (hP) (hI) hl.1 rfl (Nat.le_of_ble_eq_true rfl) d_Mo_append_52 ⟨(Nat.le_of_ble_eq_true rfl), (Nat.le_of_ble_eq_true rfl)⟩ hS (na_le hS) (fun H1 locs1 hP1 hk1 hS => ?_)
          have hP : nw D vcl PM ad (mdC cy ad 1 dn tp tn w cp cb we be lg co fi bn op ro fo) H1 := hP1
          generalize H1 = H at hP hS ⊢
          exact end_I F hr hlk rfl hP hS d_Mo_append_55
set_option maxRecDepth 100000 in
set_option maxHeartbeats 4000000 in
theorem c_Mo_append2 (l : Launch) (D : va_G) (cy : Nat → ClassId) (ad : Nat → Nat) (fl tn cp cb bn fo : Nat) (dn w : Bool) (tp we be co fi ro : Nat → Nat) (lg : Nat → Bool) (op : Option Nat) (kd mo k : Nat) (hkd1 : 1 ≤ kd) (hkd2 : kd ≤ 15) (hmo : mo < 2 ^ 31) (hk : k ≤ 45) (htn : tn ≤ 1060) (h : tn < k ∨ k + 1000 < tn) : mtI l y_Mo_append b_Mo_append 8 (some .int) RM D cy [.ref (ad 0), .int (nI kd), .int (nI mo), .int (nI k)] PM ad (mdC cy ad fl dn tp tn w cp cb we be lg co fi bn op ro fo) (mdC cy ad 1 dn tp tn w cp cb we be lg co fi bn op ro fo) (nI 0) := by
  intro sz
  refine nm_ofW (cc := b_Mo_append) (maxL := 8) (ret := (some .int)) (own := R_Mo) (by decide) (Nat.le_of_ble_eq_true rfl) rfl ?_
  intro p e s m below meth c ls F hr hlk hnm hv hl
  obtain ⟨hx, hb, hml, hown, hts⟩ := id F
  obtain ⟨rfl, hP, hK, hI⟩ := hv
  have hD : nd (na PM ad s.heap.size) PM ad := nd_self hI
  have hA : ∀ q, s.heap.size ≤ q → na PM ad s.heap.size q := fun q h => Or.inr h
  have hS : va_S (na PM ad s.heap.size) s.heap s.heap [] := va_S.rf
  have hl : lv_has ls 8 [(0, .ref (ad 0)), (1, .int (nI kd)), (2, .int (nI mo)), (3, .int (nI k))] := hl
  refine lv_aload_n hx hb d_Mo_append_0 rfl (lv_at hl 0 rfl) ?_
  refine lv_iconst (v := nI 0) hx hb d_Mo_append_1 (by decide) ?_
  refine nw_put (D := D) (ci := 5) (C := R_Mo) (T := T_Mo) (N := 16) hx hb hts in_Mo ty_Mo tk_Mo nm_Mo hown hK.k hP hD hS (i := 0) (by decide) md_0 rfl 0 (by decide) (hts _ kf_Mo_38) rfl rfl rfl (Nat.le_of_ble_eq_true rfl) d_Mo_append_2 (fun H locs hP hS hz hq => ?_)
  have hP : nw D vcl PM ad (mdC cy ad 0 dn tp tn w cp cb we be lg co fi bn op ro fo) H := nw_congr hP (mdu_fl)
  refine lv_iload_n hx hb d_Mo_append_5 rfl (lv_at hl 1 rfl) ?_
  refine lv_iconst (v := nI 1) hx hb d_Mo_append_6 (by decide) ?_
  refine lv_icmp_lt (tgt := 50) hx hb d_Mo_append_7 (by decide) (fun c7 => absurd c7 (fun z => absurd ((nI_ltI (by omega) (by omega)).mp z) (by omega))) (fun c7 => ?_)
  refine lv_iload_n hx hb d_Mo_append_10 rfl (lv_at hl 1 rfl) ?_
  refine lv_bipush (v := nI 15) hx hb d_Mo_append_11 (by decide) ?_
  refine lv_icmp_gt (tgt := 50) hx hb d_Mo_append_13 (by decide) (fun c13 => absurd c13 (fun z => absurd ((nI_ltI (by omega) (by omega)).mp z) (by omega))) (fun c13 => ?_)
  refine lv_iload_n hx hb d_Mo_append_16 rfl (lv_at hl 2 rfl) ?_
  refine lv_if_lt (tgt := 50) hx hb d_Mo_append_17 (by decide) (fun c17 => absurd c17 (nI_pos (by omega))) (fun c17 => ?_)
  refine lv_iload_n hx hb d_Mo_append_20 rfl (lv_at hl 3 rfl) ?_
  refine lv_if_lt (tgt := 50) hx hb d_Mo_append_21 (by decide) (fun c21 => absurd c21 (nI_pos (by omega))) (fun c21 => ?_)
  refine lv_iload_n hx hb d_Mo_append_24 rfl (lv_at hl 3 rfl) ?_
  refine lv_bipush (v := nI 45) hx hb d_Mo_append_25 (by decide) ?_
  refine lv_icmp_gt (tgt := 50) hx hb d_Mo_append_27 (by decide) (fun c27 => absurd c27 (fun z => absurd ((nI_ltI (by omega) (by omega)).mp z) (by omega))) (fun c27 => ?_)
  refine lv_aload_n hx hb d_Mo_append_30 rfl (lv_at hl 0 rfl) ?_
  refine nw_get (D := D) (ci := 5) (C := R_Mo) (T := T_Mo) (N := 16) hx hb hts in_Mo hown hK.k hP (i := 0) (by decide) md_0 rfl 3 (by decide) (hts _ kf_Mo_49) rfl d_Mo_append_31 ?_
  refine lv_iload_n hx hb d_Mo_append_34 rfl (lv_at hl 3 rfl) ?_
  refine lv_icmp_lt (tgt := 50) hx hb d_Mo_append_35 (by decide) (fun c35 => ?_) (fun c35 => ?_)
  · have c35 := (nI_ltI (by omega) (by omega)).mp c35
    refine lv_aload_n hx hb d_Mo_append_50 rfl (lv_at hl 0 rfl) ?_
    refine lv_iconst (v := nI 1) hx hb d_Mo_append_51 (by decide) ?_
    refine call_I (As := [.int (nI 1)]) (rest := []) F hK (c_Mo_fail l D cy ad 0 tn cp cb bn fo dn w tp we be co fi ro lg op 1) km_Mo_45 ki_Mo_fail ks_Mo_fail k0_Mo kc_Mo_fail kd_Mo_fail ⟨Nat.le_of_ble_eq_true rfl, Nat.le_of_ble_eq_true rfl⟩ (nw_recv hK.k hP (i := 0) (by decide) md_0 rfl) (hP) (hI) hl.1 rfl (Nat.le_of_ble_eq_true rfl) d_Mo_append_52 ⟨(Nat.le_of_ble_eq_true rfl), (Nat.le_of_ble_eq_true rfl)⟩ hS (na_le hS) (fun H1 locs1 hP1 hk1 hS => ?_)
    have hP : nw D vcl PM ad (mdC cy ad 1 dn tp tn w cp cb we be lg co fi bn op ro fo) H1 := hP1
    generalize H1 = H at hP hS ⊢
    exact end_I F hr hlk rfl hP hS d_Mo_append_55
  · have c35 := mt (nI_ltI (by omega) (by omega)).mpr c35
    refine lv_aload_n hx hb d_Mo_append_38 rfl (lv_at hl 0 rfl) ?_
    refine nw_get (D := D) (ci := 5) (C := R_Mo) (T := T_Mo) (N := 16) hx hb hts in_Mo hown hK.k hP (i := 0) (by decide) md_0 rfl 3 (by decide) (hts _ kf_Mo_49) rfl d_Mo_append_39 ?_
    refine lv_iload_n hx hb d_Mo_append_42 rfl (lv_at hl 3 rfl) ?_
    refine lv_isub hx hb d_Mo_append_43 ?_
    refine lv_eqi (pk_sub (by omega)) ?_
    refine lv_sipush (v := nI 1000) hx hb d_Mo_append_44 (by decide) ?_
    refine lv_icmp_le (tgt := 56) hx hb d_Mo_append_47 (by decide) (fun c47 => absurd c47 (fun z => absurd ((nI_leI (by omega) (by omega)).mp z) (by omega))) (fun c47 => ?_)
    refine lv_aload_n hx hb d_Mo_append_50 rfl (lv_at hl 0 rfl) ?_
    refine lv_iconst (v := nI 1) hx hb d_Mo_append_51 (by decide) ?_
    refine call_I (As := [.int (nI 1)]) (rest := []) F hK (c_Mo_fail l D cy ad 0 tn cp cb bn fo dn w tp we be co fi ro lg op 1) km_Mo_45 ki_Mo_fail ks_Mo_fail k0_Mo kc_Mo_fail kd_Mo_fail ⟨Nat.le_of_ble_eq_true rfl, Nat.le_of_ble_eq_true rfl⟩ (nw_recv hK.k hP (i := 0) (by decide) md_0 rfl) (hP) (hI) hl.1 rfl (Nat.le_of_ble_eq_true rfl) d_Mo_append_52 ⟨(Nat.le_of_ble_eq_true rfl), (Nat.le_of_ble_eq_true rfl)⟩ hS (na_le hS) (fun H1 locs1 hP1 hk1 hS => ?_)
    have hP : nw D vcl PM ad (mdC cy ad 1 dn tp tn w cp cb we be lg co fi bn op ro fo) H1 := hP1
    generalize H1 = H at hP hS ⊢
    exact end_I F hr hlk rfl hP hS d_Mo_append_55
set_option maxRecDepth 100000 in
set_option maxHeartbeats 4000000 in
theorem c_Mo_append3 (l : Launch) (D : va_G) (cy : Nat → ClassId) (ad : Nat → Nat) (fl tn cp cb bn fo : Nat) (dn w : Bool) (tp we be co fi ro : Nat → Nat) (lg : Nat → Bool) (op : Option Nat) (kd mo k : Nat) (hkd1 : 1 ≤ kd) (hkd2 : kd ≤ 15) (hmo : mo < 2 ^ 31) (hk : k ≤ 45) (hkt : k ≤ tn) (htk : tn ≤ k + 1000) : mtI l y_Mo_append b_Mo_append 8 (some .int) RM D cy [.ref (ad 0), .int (nI kd), .int (nI mo), .int (nI k)] PM ad (mdC cy ad fl true tp tn w cp cb we be lg co fi bn op ro fo) (mdC cy ad 2 true tp tn w cp cb we be lg co fi bn op ro fo) (nI 0) := by
  intro sz
  refine nm_ofW (cc := b_Mo_append) (maxL := 8) (ret := (some .int)) (own := R_Mo) (by decide) (Nat.le_of_ble_eq_true rfl) rfl ?_
  intro p e s m below meth c ls F hr hlk hnm hv hl
  obtain ⟨hx, hb, hml, hown, hts⟩ := id F
  obtain ⟨rfl, hP, hK, hI⟩ := hv
  have hD : nd (na PM ad s.heap.size) PM ad := nd_self hI
  have hA : ∀ q, s.heap.size ≤ q → na PM ad s.heap.size q := fun q h => Or.inr h
  have hS : va_S (na PM ad s.heap.size) s.heap s.heap [] := va_S.rf
  have hl : lv_has ls 8 [(0, .ref (ad 0)), (1, .int (nI kd)), (2, .int (nI mo)), (3, .int (nI k))] := hl
  refine lv_aload_n hx hb d_Mo_append_0 rfl (lv_at hl 0 rfl) ?_
  refine lv_iconst (v := nI 0) hx hb d_Mo_append_1 (by decide) ?_
  refine nw_put (D := D) (ci := 5) (C := R_Mo) (T := T_Mo) (N := 16) hx hb hts in_Mo ty_Mo tk_Mo nm_Mo hown hK.k hP hD hS (i := 0) (by decide) md_0 rfl 0 (by decide) (hts _ kf_Mo_38) rfl rfl rfl (Nat.le_of_ble_eq_true rfl) d_Mo_append_2 (fun H locs hP hS hz hq => ?_)
  have hP : nw D vcl PM ad (mdC cy ad 0 true tp tn w cp cb we be lg co fi bn op ro fo) H := nw_congr hP (mdu_fl)
  refine lv_iload_n hx hb d_Mo_append_5 rfl (lv_at hl 1 rfl) ?_
  refine lv_iconst (v := nI 1) hx hb d_Mo_append_6 (by decide) ?_
  refine lv_icmp_lt (tgt := 50) hx hb d_Mo_append_7 (by decide) (fun c7 => absurd c7 (fun z => absurd ((nI_ltI (by omega) (by omega)).mp z) (by omega))) (fun c7 => ?_)
  refine lv_iload_n hx hb d_Mo_append_10 rfl (lv_at hl 1 rfl) ?_
  refine lv_bipush (v := nI 15) hx hb d_Mo_append_11 (by decide) ?_
  refine lv_icmp_gt (tgt := 50) hx hb d_Mo_append_13 (by decide) (fun c13 => absurd c13 (fun z => absurd ((nI_ltI (by omega) (by omega)).mp z) (by omega))) (fun c13 => ?_)
  refine lv_iload_n hx hb d_Mo_append_16 rfl (lv_at hl 2 rfl) ?_
  refine lv_if_lt (tgt := 50) hx hb d_Mo_append_17 (by decide) (fun c17 => absurd c17 (nI_pos (by omega))) (fun c17 => ?_)
  refine lv_iload_n hx hb d_Mo_append_20 rfl (lv_at hl 3 rfl) ?_
  refine lv_if_lt (tgt := 50) hx hb d_Mo_append_21 (by decide) (fun c21 => absurd c21 (nI_pos (by omega))) (fun c21 => ?_)
  refine lv_iload_n hx hb d_Mo_append_24 rfl (lv_at hl 3 rfl) ?_
  refine lv_bipush (v := nI 45) hx hb d_Mo_append_25 (by decide) ?_
  refine lv_icmp_gt (tgt := 50) hx hb d_Mo_append_27 (by decide) (fun c27 => absurd c27 (fun z => absurd ((nI_ltI (by omega) (by omega)).mp z) (by omega))) (fun c27 => ?_)
  refine lv_aload_n hx hb d_Mo_append_30 rfl (lv_at hl 0 rfl) ?_
  refine nw_get (D := D) (ci := 5) (C := R_Mo) (T := T_Mo) (N := 16) hx hb hts in_Mo hown hK.k hP (i := 0) (by decide) md_0 rfl 3 (by decide) (hts _ kf_Mo_49) rfl d_Mo_append_31 ?_
  refine lv_iload_n hx hb d_Mo_append_34 rfl (lv_at hl 3 rfl) ?_
  refine lv_icmp_lt (tgt := 50) hx hb d_Mo_append_35 (by decide) (fun c35 => absurd c35 (fun z => absurd ((nI_ltI (by omega) (by omega)).mp z) (by omega))) (fun c35 => ?_)
  refine lv_aload_n hx hb d_Mo_append_38 rfl (lv_at hl 0 rfl) ?_
  refine nw_get (D := D) (ci := 5) (C := R_Mo) (T := T_Mo) (N := 16) hx hb hts in_Mo hown hK.k hP (i := 0) (by decide) md_0 rfl 3 (by decide) (hts _ kf_Mo_49) rfl d_Mo_append_39 ?_
  refine lv_iload_n hx hb d_Mo_append_42 rfl (lv_at hl 3 rfl) ?_
  refine lv_isub hx hb d_Mo_append_43 ?_
  refine lv_eqi (pk_sub (by omega)) ?_
  refine lv_sipush (v := nI 1000) hx hb d_Mo_append_44 (by decide) ?_
  refine lv_icmp_le (tgt := 56) hx hb d_Mo_append_47 (by decide) (fun c47 => ?_) (fun c47 => absurd ((nI_leI (by omega) (by omega)).mpr (by omega)) c47)
  refine lv_aload_n hx hb d_Mo_append_56 rfl (lv_at hl 0 rfl) ?_
  refine nw_get (D := D) (ci := 5) (C := R_Mo) (T := T_Mo) (N := 16) hx hb hts in_Mo hown hK.k hP (i := 0) (by decide) md_0 rfl 1 (by decide) (hts _ kf_Mo_41) rfl d_Mo_append_57 ?_
  refine lv_if_eq (tgt := 69) hx hb d_Mo_append_60 (by decide) (fun c60 => absurd c60 (show ¬ bI true = 0 by decide)) (fun c60 => ?_)
  refine lv_aload_n hx hb d_Mo_append_63 rfl (lv_at hl 0 rfl) ?_
  refine lv_iconst (v := nI 2) hx hb d_Mo_append_64 (by decide) ?_
  refine call_I (As := [.int (nI 2)]) (rest := []) F hK (c_Mo_fail l D cy ad 0 tn cp cb bn fo true w tp we be co fi ro lg op 2) km_Mo_45 ki_Mo_fail ks_Mo_fail k0_Mo kc_Mo_fail kd_Mo_fail ⟨Nat.le_of_ble_eq_true rfl, Nat.le_of_ble_eq_true rfl⟩ (nw_recv hK.k hP (i := 0) (by decide) md_0 rfl) (hP) (hI) hl.1 rfl (Nat.le_of_ble_eq_true rfl) d_Mo_append_65 ⟨(Nat.le_of_ble_eq_true rfl), (Nat.le_of_ble_eq_true rfl)⟩ hS (na_le hS) (fun H1 locs1 hP1 hk1 hS => ?_)
  have hP : nw D vcl PM ad (mdC cy ad 2 true tp tn w cp cb we be lg co fi bn op ro fo) H1 := hP1
  generalize H1 = H at hP hS ⊢
  exact end_I F hr hlk rfl hP hS d_Mo_append_68
set_option maxRecDepth 100000 in
set_option maxHeartbeats 4000000 in
theorem c_Mo_append4n (l : Launch) (D : va_G) (cy : Nat → ClassId) (ad : Nat → Nat) (fl tn cp cb bn fo : Nat) (dn w : Bool) (tp we be co fi ro : Nat → Nat) (lg : Nat → Bool) (op : Option Nat) (kd mo k : Nat) (hkd1 : 1 ≤ kd) (hkd2 : kd ≤ 15) (hmo : mo < 2 ^ 31) (hk : k ≤ 45) (hkt : k ≤ tn) (htk : tn ≤ k + 1000)  (h24 : cntL lg 24 = 24) : mtI l y_Mo_append b_Mo_append 8 (some .int) RM D cy [.ref (ad 0), .int (nI kd), .int (nI mo), .int (nI k)] PM ad (mdC cy ad fl false tp tn w cp cb we be lg co fi bn none ro fo) (mdC cy ad 3 false tp 0 w cp cb we be lg co fi bn none ro fo) (nI 0) := by
  intro sz
  refine nm_ofW (cc := b_Mo_append) (maxL := 8) (ret := (some .int)) (own := R_Mo) (by decide) (Nat.le_of_ble_eq_true rfl) rfl ?_
  intro p e s m below meth c ls F hr hlk hnm hv hl
  obtain ⟨hx, hb, hml, hown, hts⟩ := id F
  obtain ⟨rfl, hP, hK, hI⟩ := hv
  have hD : nd (na PM ad s.heap.size) PM ad := nd_self hI
  have hA : ∀ q, s.heap.size ≤ q → na PM ad s.heap.size q := fun q h => Or.inr h
  have hS : va_S (na PM ad s.heap.size) s.heap s.heap [] := va_S.rf
  have hl : lv_has ls 8 [(0, .ref (ad 0)), (1, .int (nI kd)), (2, .int (nI mo)), (3, .int (nI k))] := hl
  refine lv_aload_n hx hb d_Mo_append_0 rfl (lv_at hl 0 rfl) ?_
  refine lv_iconst (v := nI 0) hx hb d_Mo_append_1 (by decide) ?_
  refine nw_put (D := D) (ci := 5) (C := R_Mo) (T := T_Mo) (N := 16) hx hb hts in_Mo ty_Mo tk_Mo nm_Mo hown hK.k hP hD hS (i := 0) (by decide) md_0 rfl 0 (by decide) (hts _ kf_Mo_38) rfl rfl rfl (Nat.le_of_ble_eq_true rfl) d_Mo_append_2 (fun H locs hP hS hz hq => ?_)
  have hP : nw D vcl PM ad (mdC cy ad 0 false tp tn w cp cb we be lg co fi bn none ro fo) H := nw_congr hP (mdu_fl)
  refine lv_iload_n hx hb d_Mo_append_5 rfl (lv_at hl 1 rfl) ?_
  refine lv_iconst (v := nI 1) hx hb d_Mo_append_6 (by decide) ?_
  refine lv_icmp_lt (tgt := 50) hx hb d_Mo_append_7 (by decide) (fun c7 => absurd c7 (fun z => absurd ((nI_ltI (by omega) (by omega)).mp z) (by omega))) (fun c7 => ?_)
  refine lv_iload_n hx hb d_Mo_append_10 rfl (lv_at hl 1 rfl) ?_
  refine lv_bipush (v := nI 15) hx hb d_Mo_append_11 (by decide) ?_
  refine lv_icmp_gt (tgt := 50) hx hb d_Mo_append_13 (by decide) (fun c13 => absurd c13 (fun z => absurd ((nI_ltI (by omega) (by omega)).mp z) (by omega))) (fun c13 => ?_)
  refine lv_iload_n hx hb d_Mo_append_16 rfl (lv_at hl 2 rfl) ?_
  refine lv_if_lt (tgt := 50) hx hb d_Mo_append_17 (by decide) (fun c17 => absurd c17 (nI_pos (by omega))) (fun c17 => ?_)
  refine lv_iload_n hx hb d_Mo_append_20 rfl (lv_at hl 3 rfl) ?_
  refine lv_if_lt (tgt := 50) hx hb d_Mo_append_21 (by decide) (fun c21 => absurd c21 (nI_pos (by omega))) (fun c21 => ?_)
  refine lv_iload_n hx hb d_Mo_append_24 rfl (lv_at hl 3 rfl) ?_
  refine lv_bipush (v := nI 45) hx hb d_Mo_append_25 (by decide) ?_
  refine lv_icmp_gt (tgt := 50) hx hb d_Mo_append_27 (by decide) (fun c27 => absurd c27 (fun z => absurd ((nI_ltI (by omega) (by omega)).mp z) (by omega))) (fun c27 => ?_)
  refine lv_aload_n hx hb d_Mo_append_30 rfl (lv_at hl 0 rfl) ?_
  refine nw_get (D := D) (ci := 5) (C := R_Mo) (T := T_Mo) (N := 16) hx hb hts in_Mo hown hK.k hP (i := 0) (by decide) md_0 rfl 3 (by decide) (hts _ kf_Mo_49) rfl d_Mo_append_31 ?_
  refine lv_iload_n hx hb d_Mo_append_34 rfl (lv_at hl 3 rfl) ?_
  refine lv_icmp_lt (tgt := 50) hx hb d_Mo_append_35 (by decide) (fun c35 => absurd c35 (fun z => absurd ((nI_ltI (by omega) (by omega)).mp z) (by omega))) (fun c35 => ?_)
  refine lv_aload_n hx hb d_Mo_append_38 rfl (lv_at hl 0 rfl) ?_
  refine nw_get (D := D) (ci := 5) (C := R_Mo) (T := T_Mo) (N := 16) hx hb hts in_Mo hown hK.k hP (i := 0) (by decide) md_0 rfl 3 (by decide) (hts _ kf_Mo_49) rfl d_Mo_append_39 ?_
  refine lv_iload_n hx hb d_Mo_append_42 rfl (lv_at hl 3 rfl) ?_
  refine lv_isub hx hb d_Mo_append_43 ?_
  refine lv_eqi (pk_sub (by omega)) ?_
  refine lv_sipush (v := nI 1000) hx hb d_Mo_append_44 (by decide) ?_
  refine lv_icmp_le (tgt := 56) hx hb d_Mo_append_47 (by decide) (fun c47 => ?_) (fun c47 => absurd ((nI_leI (by omega) (by omega)).mpr (by omega)) c47)
  refine lv_aload_n hx hb d_Mo_append_56 rfl (lv_at hl 0 rfl) ?_
  refine nw_get (D := D) (ci := 5) (C := R_Mo) (T := T_Mo) (N := 16) hx hb hts in_Mo hown hK.k hP (i := 0) (by decide) md_0 rfl 1 (by decide) (hts _ kf_Mo_41) rfl d_Mo_append_57 ?_
  refine lv_if_eq (tgt := 69) hx hb d_Mo_append_60 (by decide) (fun c60 => ?_) (fun c60 => absurd (show bI false = 0 by decide) c60)
  refine lv_aload_n hx hb d_Mo_append_69 rfl (lv_at hl 0 rfl) ?_
  refine nw_get (D := D) (ci := 5) (C := R_Mo) (T := T_Mo) (N := 16) hx hb hts in_Mo hown hK.k hP (i := 0) (by decide) md_0 rfl 3 (by decide) (hts _ kf_Mo_49) rfl d_Mo_append_70 ?_
  refine lv_istore (lv' := [(4, .int (nI tn)), (0, .ref (ad 0)), (1, .int (nI kd)), (2, .int (nI mo)), (3, .int (nI k))]) hx hb d_Mo_append_73 hl (by decide) rfl (fun ls hl => ?_)
  refine lv_aload_n hx hb d_Mo_append_75 rfl (lv_at hl 1 rfl) ?_
  refine lv_iconst (v := nI 0) hx hb d_Mo_append_76 (by decide) ?_
  refine nw_put (D := D) (ci := 5) (C := R_Mo) (T := T_Mo) (N := 16) hx hb hts in_Mo ty_Mo tk_Mo nm_Mo hown hK.k hP hD hS (i := 0) (by decide) md_0 rfl 3 (by decide) (hts _ kf_Mo_49) rfl rfl rfl (Nat.le_of_ble_eq_true rfl) d_Mo_append_77 (fun H locs hP hS hz hq => ?_)
  have hP : nw D vcl PM ad (mdC cy ad 0 false tp 0 w cp cb we be lg co fi bn none ro fo) H := nw_congr hP (mdu_tn)
  refine lv_aload_n hx hb d_Mo_append_80 rfl (lv_at hl 1 rfl) ?_
  refine nw_get (D := D) (ci := 5) (C := R_Mo) (T := T_Mo) (N := 16) hx hb hts in_Mo hown hK.k hP (i := 0) (by decide) md_0 rfl 13 (by decide) (hts _ kf_Mo_30) rfl d_Mo_append_81 ?_
  refine lv_if_lt (tgt := 112) hx hb d_Mo_append_84 (by decide) (fun c84 => ?_) (fun c84 => absurd (show oI none < 0 by decide) c84)
  refine lv_iconst (v := nI 0) hx hb d_Mo_append_112 (by decide) ?_
  refine lv_istore (lv' := [(5, .int (nI 0)), (4, .int (nI tn)), (0, .ref (ad 0)), (1, .int (nI kd)), (2, .int (nI mo)), (3, .int (nI k))]) hx hb d_Mo_append_113 hl (by decide) rfl (fun ls hl => ?_)
  refine lv_iload hx hb d_Mo_append_115 (lv_at hl 0 rfl) ?_
  refine lv_if_ne (tgt := 135) hx hb d_Mo_append_117 (by decide) (fun c117 => absurd (show nI 0 = 0 by decide) c117) (fun c117 => ?_)
  refine lv_aload_n hx hb d_Mo_append_120 rfl (lv_at hl 2 rfl) ?_
  refine call_R (As := []) (rest := []) F hK (c_Mo_blocks l D cy ad 0 0 cp cb bn fo false w tp we be co fi ro lg none) km_Mo_67 ki_Mo_blocks ks_Mo_blocks k0_Mo kc_Mo_blocks kd_Mo_blocks ⟨Nat.le_of_ble_eq_true rfl, Nat.le_of_ble_eq_true rfl⟩ (nw_recv hK.k hP (i := 0) (by decide) md_0 rfl) (hP) (hI) hl.1 rfl (Nat.le_of_ble_eq_true rfl) d_Mo_append_121 ⟨(Nat.le_of_ble_eq_true rfl), (Nat.le_of_ble_eq_true rfl)⟩ hS (fun H1 locs1 hN hS => ?_)
  have hP := hN _ _ _ hP
  generalize H1 = H at hP hS ⊢
  refine lv_bipush (v := nI 24) hx hb d_Mo_append_124 (by decide) ?_
  refine lv_icmp_ne (tgt := 135) hx hb d_Mo_append_126 (by decide) (fun c126 => absurd (by rw [h24]) c126) (fun c126 => ?_)
  refine lv_aload_n hx hb d_Mo_append_129 rfl (lv_at hl 2 rfl) ?_
  refine lv_iconst (v := nI 3) hx hb d_Mo_append_130 (by decide) ?_
  refine call_I (As := [.int (nI 3)]) (rest := []) F hK (c_Mo_fail l D cy ad 0 0 cp cb bn fo false w tp we be co fi ro lg none 3) km_Mo_45 ki_Mo_fail ks_Mo_fail k0_Mo kc_Mo_fail kd_Mo_fail ⟨Nat.le_of_ble_eq_true rfl, Nat.le_of_ble_eq_true rfl⟩ (nw_recv hK.k hP (i := 0) (by decide) md_0 rfl) (hP) (hI) hl.1 rfl (Nat.le_of_ble_eq_true rfl) d_Mo_append_131 ⟨(Nat.le_of_ble_eq_true rfl), (Nat.le_of_ble_eq_true rfl)⟩ hS (na_le hS) (fun H1 locs1 hP1 hk1 hS => ?_)
  have hP : nw D vcl PM ad (mdC cy ad 3 false tp 0 w cp cb we be lg co fi bn none ro fo) H1 := hP1
  generalize H1 = H at hP hS ⊢
  exact end_I F hr hlk rfl hP hS d_Mo_append_134
set_option maxRecDepth 100000 in
set_option maxHeartbeats 4000000 in
theorem c_Mo_append4s (l : Launch) (D : va_G) (cy : Nat → ClassId) (ad : Nat → Nat) (fl tn cp cb bn fo : Nat) (dn w : Bool) (tp we be co fi ro : Nat → Nat) (lg : Nat → Bool) (op : Option Nat) (kd mo k : Nat) (hkd1 : 1 ≤ kd) (hkd2 : kd ≤ 15) (hmo : mo < 2 ^ 31) (hk : k ≤ 45) (hkt : k ≤ tn) (htk : tn ≤ k + 1000) (b : Nat) (hb24 : b < 24) (HQ : ∀ b, b < 24 → fi b ≤ 2040 ∧ co b < 2 ^ 16) (hroom : 2040 < fi b + 9 + tn) (h24 : cntL lg 24 = 24) : mtI l y_Mo_append b_Mo_append 8 (some .int) RM D cy [.ref (ad 0), .int (nI kd), .int (nI mo), .int (nI k)] PM ad (mdC cy ad fl false tp tn w cp cb we be lg co fi bn (some b) ro fo) (mdC cy ad 3 false tp 0 w cp cb we be lg co fi bn (some b) ro fo) (nI 0) := by
  intro sz
  refine nm_ofW (cc := b_Mo_append) (maxL := 8) (ret := (some .int)) (own := R_Mo) (by decide) (Nat.le_of_ble_eq_true rfl) rfl ?_
  intro p e s m below meth c ls F hr hlk hnm hv hl
  obtain ⟨hx, hb, hml, hown, hts⟩ := id F
  obtain ⟨rfl, hP, hK, hI⟩ := hv
  have hD : nd (na PM ad s.heap.size) PM ad := nd_self hI
  have hA : ∀ q, s.heap.size ≤ q → na PM ad s.heap.size q := fun q h => Or.inr h
  have hS : va_S (na PM ad s.heap.size) s.heap s.heap [] := va_S.rf
  have hl : lv_has ls 8 [(0, .ref (ad 0)), (1, .int (nI kd)), (2, .int (nI mo)), (3, .int (nI k))] := hl
  have hq0 := HQ b hb24
  refine lv_aload_n hx hb d_Mo_append_0 rfl (lv_at hl 0 rfl) ?_
  refine lv_iconst (v := nI 0) hx hb d_Mo_append_1 (by decide) ?_
  refine nw_put (D := D) (ci := 5) (C := R_Mo) (T := T_Mo) (N := 16) hx hb hts in_Mo ty_Mo tk_Mo nm_Mo hown hK.k hP hD hS (i := 0) (by decide) md_0 rfl 0 (by decide) (hts _ kf_Mo_38) rfl rfl rfl (Nat.le_of_ble_eq_true rfl) d_Mo_append_2 (fun H locs hP hS hz hq => ?_)
  have hP : nw D vcl PM ad (mdC cy ad 0 false tp tn w cp cb we be lg co fi bn (some b) ro fo) H := nw_congr hP (mdu_fl)
  refine lv_iload_n hx hb d_Mo_append_5 rfl (lv_at hl 1 rfl) ?_
  refine lv_iconst (v := nI 1) hx hb d_Mo_append_6 (by decide) ?_
  refine lv_icmp_lt (tgt := 50) hx hb d_Mo_append_7 (by decide) (fun c7 => absurd c7 (fun z => absurd ((nI_ltI (by omega) (by omega)).mp z) (by omega))) (fun c7 => ?_)
  refine lv_iload_n hx hb d_Mo_append_10 rfl (lv_at hl 1 rfl) ?_
  refine lv_bipush (v := nI 15) hx hb d_Mo_append_11 (by decide) ?_
  refine lv_icmp_gt (tgt := 50) hx hb d_Mo_append_13 (by decide) (fun c13 => absurd c13 (fun z => absurd ((nI_ltI (by omega) (by omega)).mp z) (by omega))) (fun c13 => ?_)
  refine lv_iload_n hx hb d_Mo_append_16 rfl (lv_at hl 2 rfl) ?_
  refine lv_if_lt (tgt := 50) hx hb d_Mo_append_17 (by decide) (fun c17 => absurd c17 (nI_pos (by omega))) (fun c17 => ?_)
  refine lv_iload_n hx hb d_Mo_append_20 rfl (lv_at hl 3 rfl) ?_
  refine lv_if_lt (tgt := 50) hx hb d_Mo_append_21 (by decide) (fun c21 => absurd c21 (nI_pos (by omega))) (fun c21 => ?_)
  refine lv_iload_n hx hb d_Mo_append_24 rfl (lv_at hl 3 rfl) ?_
  refine lv_bipush (v := nI 45) hx hb d_Mo_append_25 (by decide) ?_
  refine lv_icmp_gt (tgt := 50) hx hb d_Mo_append_27 (by decide) (fun c27 => absurd c27 (fun z => absurd ((nI_ltI (by omega) (by omega)).mp z) (by omega))) (fun c27 => ?_)
  refine lv_aload_n hx hb d_Mo_append_30 rfl (lv_at hl 0 rfl) ?_
  refine nw_get (D := D) (ci := 5) (C := R_Mo) (T := T_Mo) (N := 16) hx hb hts in_Mo hown hK.k hP (i := 0) (by decide) md_0 rfl 3 (by decide) (hts _ kf_Mo_49) rfl d_Mo_append_31 ?_
  refine lv_iload_n hx hb d_Mo_append_34 rfl (lv_at hl 3 rfl) ?_
  refine lv_icmp_lt (tgt := 50) hx hb d_Mo_append_35 (by decide) (fun c35 => absurd c35 (fun z => absurd ((nI_ltI (by omega) (by omega)).mp z) (by omega))) (fun c35 => ?_)
  refine lv_aload_n hx hb d_Mo_append_38 rfl (lv_at hl 0 rfl) ?_
  refine nw_get (D := D) (ci := 5) (C := R_Mo) (T := T_Mo) (N := 16) hx hb hts in_Mo hown hK.k hP (i := 0) (by decide) md_0 rfl 3 (by decide) (hts _ kf_Mo_49) rfl d_Mo_append_39 ?_
  refine lv_iload_n hx hb d_Mo_append_42 rfl (lv_at hl 3 rfl) ?_
  refine lv_isub hx hb d_Mo_append_43 ?_
  refine lv_eqi (pk_sub (by omega)) ?_
  refine lv_sipush (v := nI 1000) hx hb d_Mo_append_44 (by decide) ?_
  refine lv_icmp_le (tgt := 56) hx hb d_Mo_append_47 (by decide) (fun c47 => ?_) (fun c47 => absurd ((nI_leI (by omega) (by omega)).mpr (by omega)) c47)
  refine lv_aload_n hx hb d_Mo_append_56 rfl (lv_at hl 0 rfl) ?_
  refine nw_get (D := D) (ci := 5) (C := R_Mo) (T := T_Mo) (N := 16) hx hb hts in_Mo hown hK.k hP (i := 0) (by decide) md_0 rfl 1 (by decide) (hts _ kf_Mo_41) rfl d_Mo_append_57 ?_
  refine lv_if_eq (tgt := 69) hx hb d_Mo_append_60 (by decide) (fun c60 => ?_) (fun c60 => absurd (show bI false = 0 by decide) c60)
  refine lv_aload_n hx hb d_Mo_append_69 rfl (lv_at hl 0 rfl) ?_
  refine nw_get (D := D) (ci := 5) (C := R_Mo) (T := T_Mo) (N := 16) hx hb hts in_Mo hown hK.k hP (i := 0) (by decide) md_0 rfl 3 (by decide) (hts _ kf_Mo_49) rfl d_Mo_append_70 ?_
  refine lv_istore (lv' := [(4, .int (nI tn)), (0, .ref (ad 0)), (1, .int (nI kd)), (2, .int (nI mo)), (3, .int (nI k))]) hx hb d_Mo_append_73 hl (by decide) rfl (fun ls hl => ?_)
  refine lv_aload_n hx hb d_Mo_append_75 rfl (lv_at hl 1 rfl) ?_
  refine lv_iconst (v := nI 0) hx hb d_Mo_append_76 (by decide) ?_
  refine nw_put (D := D) (ci := 5) (C := R_Mo) (T := T_Mo) (N := 16) hx hb hts in_Mo ty_Mo tk_Mo nm_Mo hown hK.k hP hD hS (i := 0) (by decide) md_0 rfl 3 (by decide) (hts _ kf_Mo_49) rfl rfl rfl (Nat.le_of_ble_eq_true rfl) d_Mo_append_77 (fun H locs hP hS hz hq => ?_)
  have hP : nw D vcl PM ad (mdC cy ad 0 false tp 0 w cp cb we be lg co fi bn (some b) ro fo) H := nw_congr hP (mdu_tn)
  refine lv_aload_n hx hb d_Mo_append_80 rfl (lv_at hl 1 rfl) ?_
  refine nw_get (D := D) (ci := 5) (C := R_Mo) (T := T_Mo) (N := 16) hx hb hts in_Mo hown hK.k hP (i := 0) (by decide) md_0 rfl 13 (by decide) (hts _ kf_Mo_30) rfl d_Mo_append_81 ?_
  refine lv_eqi (y := nI b) rfl ?_
  refine lv_if_lt (tgt := 112) hx hb d_Mo_append_84 (by decide) (fun c84 => absurd c84 (nI_pos (by omega))) (fun c84 => ?_)
  refine lv_aload_n hx hb d_Mo_append_87 rfl (lv_at hl 1 rfl) ?_
  refine nw_get (D := D) (ci := 5) (C := R_Mo) (T := T_Mo) (N := 16) hx hb hts in_Mo hown hK.k hP (i := 0) (by decide) md_0 rfl 11 (by decide) (hts _ kf_Mo_27) rfl d_Mo_append_88 ?_
  refine lv_aload_n hx hb d_Mo_append_91 rfl (lv_at hl 1 rfl) ?_
  refine nw_get (D := D) (ci := 5) (C := R_Mo) (T := T_Mo) (N := 16) hx hb hts in_Mo hown hK.k hP (i := 0) (by decide) md_0 rfl 13 (by decide) (hts _ kf_Mo_30) rfl d_Mo_append_92 ?_
  refine lv_eqi (y := nI b) rfl ?_
  refine nw_iald hx hb hK.k hP (i := 6) (by decide) md_6 1 rfl (vp_in_nI (by omega) (by omega)) d_Mo_append_95 ?_
  refine lv_eqi (y := nI (fi b)) (by rw [nI_clamp (by omega)]) ?_
  refine lv_bipush (v := nI 9) hx hb d_Mo_append_96 (by decide) ?_
  refine lv_iadd hx hb d_Mo_append_98 ?_
  refine lv_eqi (nI_add _ _) ?_
  refine lv_iload hx hb d_Mo_append_99 (lv_at hl 0 rfl) ?_
  refine lv_iadd hx hb d_Mo_append_101 ?_
  refine lv_eqi (nI_add _ _) ?_
  refine lv_sipush (v := nI 2040) hx hb d_Mo_append_102 (by decide) ?_
  refine lv_icmp_gt (tgt := 112) hx hb d_Mo_append_105 (by decide) (fun c105 => ?_) (fun c105 => absurd ((nI_ltI (by omega) (by omega)).mpr (by omega)) c105)
  refine lv_iconst (v := nI 0) hx hb d_Mo_append_112 (by decide) ?_
  refine lv_istore (lv' := [(5, .int (nI 0)), (4, .int (nI tn)), (0, .ref (ad 0)), (1, .int (nI kd)), (2, .int (nI mo)), (3, .int (nI k))]) hx hb d_Mo_append_113 hl (by decide) rfl (fun ls hl => ?_)
  refine lv_iload hx hb d_Mo_append_115 (lv_at hl 0 rfl) ?_
  refine lv_if_ne (tgt := 135) hx hb d_Mo_append_117 (by decide) (fun c117 => absurd (show nI 0 = 0 by decide) c117) (fun c117 => ?_)
  refine lv_aload_n hx hb d_Mo_append_120 rfl (lv_at hl 2 rfl) ?_
  refine call_R (As := []) (rest := []) F hK (c_Mo_blocks l D cy ad 0 0 cp cb bn fo false w tp we be co fi ro lg (some b)) km_Mo_67 ki_Mo_blocks ks_Mo_blocks k0_Mo kc_Mo_blocks kd_Mo_blocks ⟨Nat.le_of_ble_eq_true rfl, Nat.le_of_ble_eq_true rfl⟩ (nw_recv hK.k hP (i := 0) (by decide) md_0 rfl) (hP) (hI) hl.1 rfl (Nat.le_of_ble_eq_true rfl) d_Mo_append_121 ⟨(Nat.le_of_ble_eq_true rfl), (Nat.le_of_ble_eq_true rfl)⟩ hS (fun H1 locs1 hN hS => ?_)
  have hP := hN _ _ _ hP
  generalize H1 = H at hP hS ⊢
  refine lv_bipush (v := nI 24) hx hb d_Mo_append_124 (by decide) ?_
  refine lv_icmp_ne (tgt := 135) hx hb d_Mo_append_126 (by decide) (fun c126 => absurd (by rw [h24]) c126) (fun c126 => ?_)
  refine lv_aload_n hx hb d_Mo_append_129 rfl (lv_at hl 2 rfl) ?_
  refine lv_iconst (v := nI 3) hx hb d_Mo_append_130 (by decide) ?_
  refine call_I (As := [.int (nI 3)]) (rest := []) F hK (c_Mo_fail l D cy ad 0 0 cp cb bn fo false w tp we be co fi ro lg (some b) 3) km_Mo_45 ki_Mo_fail ks_Mo_fail k0_Mo kc_Mo_fail kd_Mo_fail ⟨Nat.le_of_ble_eq_true rfl, Nat.le_of_ble_eq_true rfl⟩ (nw_recv hK.k hP (i := 0) (by decide) md_0 rfl) (hP) (hI) hl.1 rfl (Nat.le_of_ble_eq_true rfl) d_Mo_append_131 ⟨(Nat.le_of_ble_eq_true rfl), (Nat.le_of_ble_eq_true rfl)⟩ hS (na_le hS) (fun H1 locs1 hP1 hk1 hS => ?_)
  have hP : nw D vcl PM ad (mdC cy ad 3 false tp 0 w cp cb we be lg co fi bn (some b) ro fo) H1 := hP1
  generalize H1 = H at hP hS ⊢
  exact end_I F hr hlk rfl hP hS d_Mo_append_134

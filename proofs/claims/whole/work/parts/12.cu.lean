/-! TornLog$Cut: name 0; w whether one waits, cp parts, cb bytes -/
def cuC (w : Bool) (cp cb : Nat) : Nat → va_E := fun _ => .inr (2, [.int (bI w), .int (nI cp), .int (nI cb)])
abbrev lt1 : Nat → Prop := fun i => i < 1
def cutW (w : Bool) (cp : Nat) : Bool := w && decide (0 < cp)
def cutP (w : Bool) (cp : Nat) : Nat := if w = true then cp - 1 else cp
def cutN (w : Bool) (cp cb sz : Nat) : Nat := if w = true ∧ cp = 0 then min cb (sz - 1) else sz
theorem cuC_w {w w' : Bool} {cp cb : Nat} : ∀ i, lt1 i → va_up (cuC w cp cb) 0 (.inr (2, [Value.int (bI w), Value.int (nI cp), Value.int (nI cb)].set 0 (Value.int (bI w')))) i = cuC w' cp cb i := by
  intro i hi
  obtain rfl : i = 0 := by have hi : i < 1 := hi; omega
  simp [va_up, cuC]
theorem cuC_p {w : Bool} {cp cp' cb : Nat} : ∀ i, lt1 i → va_up (cuC w cp cb) 0 (.inr (2, [Value.int (bI w), Value.int (nI cp), Value.int (nI cb)].set 1 (Value.int (nI cp')))) i = cuC w cp' cb i := by
  intro i hi
  obtain rfl : i = 0 := by have hi : i < 1 := hi; omega
  simp [va_up, cuC]
theorem cuC_b {w : Bool} {cp cb cb' : Nat} : ∀ i, lt1 i → va_up (cuC w cp cb) 0 (.inr (2, [Value.int (bI w), Value.int (nI cp), Value.int (nI cb)].set 2 (Value.int (nI cb')))) i = cuC w cp cb' i := by
  intro i hi
  obtain rfl : i = 0 := by have hi : i < 1 := hi; omega
  simp [va_up, cuC]
theorem nI_min {a b : Nat} (ha : a < 2 ^ 31) (hb : b < 2 ^ 31) : (if nI b < nI a then nI b else nI a) = nI (min a b) := by
  rcases Nat.lt_or_ge b a with h | h
  · rw [if_pos ((nI_ltI hb ha).mpr h), Nat.min_eq_right (by omega)]
  · rw [if_neg (fun q => absurd ((nI_ltI hb ha).mp q) (by omega)), Nat.min_eq_left h]
theorem kt_min : Cond.static Lib.Math.min.name ∈ TG := by decide +kernel
theorem k0_math : Cond.initialized "java/lang/Math" ∈ TG := by decide +kernel
theorem kc_min : Cond.code Lib.Math.min.name Lib.Math.min.code 2 (some .int) ∈ TG := by decide +kernel
set_option maxRecDepth 100000 in
set_option maxHeartbeats 4000000 in
theorem c_Cu_set (l : Launch) (D : va_G) (cy : Nat → ClassId) (ad : Nat → Nat) (w : Bool) (cp cb cp1 cb1 : Nat) : mtV l y_Cu_set b_Cu_set 3 { frames := 0, cells := 0, slots := 0, locals := 0 } D cy [.ref (ad 0), .int (nI cp1), .int (nI cb1)] lt1 ad (cuC w cp cb) (cuC true cp1 cb1) := by
  intro sz
  refine nm_ofW (cc := b_Cu_set) (maxL := 3) (ret := none) (own := R_Cu) (by decide) (Nat.le_of_ble_eq_true rfl) rfl ?_
  intro p e s m below meth c ls F hr hlk hnm hv hl
  obtain ⟨hx, hb, hml, hown, hts⟩ := id F
  obtain ⟨rfl, hP, hK, hI⟩ := hv
  have hD : nd (na lt1 ad s.heap.size) lt1 ad := nd_self hI
  have hA : ∀ q, s.heap.size ≤ q → na lt1 ad s.heap.size q := fun q h => Or.inr h
  have hS : va_S (na lt1 ad s.heap.size) s.heap s.heap [] := va_S.rf
  have hl : lv_has ls 3 [(0, .ref (ad 0)), (1, .int (nI cp1)), (2, .int (nI cb1))] := hl
  refine lv_aload_n hx hb d_Cu_set_0 rfl (lv_at hl 0 rfl) ?_
  refine lv_iconst (v := bI true) hx hb d_Cu_set_1 (by decide) ?_
  refine nw_put (D := D) (ci := 2) (C := R_Cu) (T := T_Cu) (N := 3) hx hb hts in_Cu ty_Cu tk_Cu nm_Cu hown hK.k hP hD hS (i := 0) (by decide) rfl rfl 0 (by decide) (hts _ kf_Cu_7) rfl (bI_nar _) (bI_fit _) (Nat.le_of_ble_eq_true rfl) d_Cu_set_2 (fun H locs hP hS hz hq => ?_)
  have hP : nw D vcl lt1 ad (cuC true cp cb) H := nw_congr hP (cuC_w)
  refine lv_aload_n hx hb d_Cu_set_5 rfl (lv_at hl 0 rfl) ?_
  refine lv_iload_n hx hb d_Cu_set_6 rfl (lv_at hl 1 rfl) ?_
  refine nw_put (D := D) (ci := 2) (C := R_Cu) (T := T_Cu) (N := 3) hx hb hts in_Cu ty_Cu tk_Cu nm_Cu hown hK.k hP hD hS (i := 0) (by decide) rfl rfl 1 (by decide) (hts _ kf_Cu_13) rfl rfl rfl (Nat.le_of_ble_eq_true rfl) d_Cu_set_7 (fun H locs hP hS hz hq => ?_)
  have hP : nw D vcl lt1 ad (cuC true cp1 cb) H := nw_congr hP (cuC_p)
  refine lv_aload_n hx hb d_Cu_set_10 rfl (lv_at hl 0 rfl) ?_
  refine lv_iload_n hx hb d_Cu_set_11 rfl (lv_at hl 2 rfl) ?_
  refine nw_put (D := D) (ci := 2) (C := R_Cu) (T := T_Cu) (N := 3) hx hb hts in_Cu ty_Cu tk_Cu nm_Cu hown hK.k hP hD hS (i := 0) (by decide) rfl rfl 2 (by decide) (hts _ kf_Cu_17) rfl rfl rfl (Nat.le_of_ble_eq_true rfl) d_Cu_set_12 (fun H locs hP hS hz hq => ?_)
  have hP : nw D vcl lt1 ad (cuC true cp1 cb1) H := nw_congr hP (cuC_b)
  exact end_V F hr hlk hP hS d_Cu_set_15
set_option maxRecDepth 100000 in
set_option maxHeartbeats 4000000 in
theorem c_Cu_bd0 (l : Launch) (D : va_G) (cy : Nat → ClassId) (ad : Nat → Nat) (cp cb z : Nat) (hz : 0 < z) (hz1 : z < 2 ^ 31) (hc : cb < 2 ^ 31) (hp : cp < 2 ^ 31)  : mtI l y_Cu_bytesDone b_Cu_bytesDone 2 (some .int) { frames := 1, cells := 0, slots := 0, locals := 13 } D cy [.ref (ad 0), .int (nI z)] lt1 ad (cuC false cp cb) (cuC false cp cb) (nI z) := by
  intro sz
  refine nm_ofW (cc := b_Cu_bytesDone) (maxL := 2) (ret := (some .int)) (own := R_Cu) (by decide) (Nat.le_of_ble_eq_true rfl) rfl ?_
  intro p e s m below meth c ls F hr hlk hnm hv hl
  obtain ⟨hx, hb, hml, hown, hts⟩ := id F
  obtain ⟨rfl, hP, hK, hI⟩ := hv
  have hD : nd (na lt1 ad s.heap.size) lt1 ad := nd_self hI
  have hA : ∀ q, s.heap.size ≤ q → na lt1 ad s.heap.size q := fun q h => Or.inr h
  have hS : va_S (na lt1 ad s.heap.size) s.heap s.heap [] := va_S.rf
  have hl : lv_has ls 2 [(0, .ref (ad 0)), (1, .int (nI z))] := hl
  refine lv_aload_n hx hb d_Cu_bytesDone_0 rfl (lv_at hl 0 rfl) ?_
  refine nw_get (D := D) (ci := 2) (C := R_Cu) (T := T_Cu) (N := 3) hx hb hts in_Cu hown hK.k hP (i := 0) (by decide) rfl rfl 0 (by decide) (hts _ kf_Cu_7) rfl d_Cu_bytesDone_1 ?_
  refine lv_if_ne (tgt := 9) hx hb d_Cu_bytesDone_4 (by decide) (fun c4 => absurd rfl c4) (fun c4 => ?_)
  refine lv_iload_n hx hb d_Cu_bytesDone_7 rfl (lv_at hl 1 rfl) ?_
  exact end_I F hr hlk rfl hP hS d_Cu_bytesDone_8
set_option maxRecDepth 100000 in
set_option maxHeartbeats 4000000 in
theorem c_Cu_bd1 (l : Launch) (D : va_G) (cy : Nat → ClassId) (ad : Nat → Nat) (cp cb z : Nat) (hz : 0 < z) (hz1 : z < 2 ^ 31) (hc : cb < 2 ^ 31) (hp : cp < 2 ^ 31) (h0 : 0 < cp) : mtI l y_Cu_bytesDone b_Cu_bytesDone 2 (some .int) { frames := 1, cells := 0, slots := 0, locals := 13 } D cy [.ref (ad 0), .int (nI z)] lt1 ad (cuC true cp cb) (cuC true (cp - 1) cb) (nI z) := by
  intro sz
  refine nm_ofW (cc := b_Cu_bytesDone) (maxL := 2) (ret := (some .int)) (own := R_Cu) (by decide) (Nat.le_of_ble_eq_true rfl) rfl ?_
  intro p e s m below meth c ls F hr hlk hnm hv hl
  obtain ⟨hx, hb, hml, hown, hts⟩ := id F
  obtain ⟨rfl, hP, hK, hI⟩ := hv
  have hD : nd (na lt1 ad s.heap.size) lt1 ad := nd_self hI
  have hA : ∀ q, s.heap.size ≤ q → na lt1 ad s.heap.size q := fun q h => Or.inr h
  have hS : va_S (na lt1 ad s.heap.size) s.heap s.heap [] := va_S.rf
  have hl : lv_has ls 2 [(0, .ref (ad 0)), (1, .int (nI z))] := hl
  refine lv_aload_n hx hb d_Cu_bytesDone_0 rfl (lv_at hl 0 rfl) ?_
  refine nw_get (D := D) (ci := 2) (C := R_Cu) (T := T_Cu) (N := 3) hx hb hts in_Cu hown hK.k hP (i := 0) (by decide) rfl rfl 0 (by decide) (hts _ kf_Cu_7) rfl d_Cu_bytesDone_1 ?_
  refine lv_if_ne (tgt := 9) hx hb d_Cu_bytesDone_4 (by decide) (fun c4 => ?_) (fun c4 => absurd c4 (show bI true = 0 → False from fun z => absurd z (by decide)))
  refine lv_aload_n hx hb d_Cu_bytesDone_9 rfl (lv_at hl 0 rfl) ?_
  refine nw_get (D := D) (ci := 2) (C := R_Cu) (T := T_Cu) (N := 3) hx hb hts in_Cu hown hK.k hP (i := 0) (by decide) rfl rfl 1 (by decide) (hts _ kf_Cu_13) rfl d_Cu_bytesDone_10 ?_
  refine lv_if_le (tgt := 28) hx hb d_Cu_bytesDone_13 (by decide) (fun c13 => absurd c13 (fun z => absurd ((nI_zl (by omega)).mp z) (by omega))) (fun c13 => ?_)
  refine lv_aload_n hx hb d_Cu_bytesDone_16 rfl (lv_at hl 0 rfl) ?_
  refine lv_dup hx hb d_Cu_bytesDone_17 rfl ?_
  refine nw_get (D := D) (ci := 2) (C := R_Cu) (T := T_Cu) (N := 3) hx hb hts in_Cu hown hK.k hP (i := 0) (by decide) rfl rfl 1 (by decide) (hts _ kf_Cu_13) rfl d_Cu_bytesDone_18 ?_
  refine lv_iconst (v := nI 1) hx hb d_Cu_bytesDone_21 (by decide) ?_
  refine lv_isub hx hb d_Cu_bytesDone_22 ?_
  refine lv_eqi (pk_sub (by omega)) ?_
  refine nw_put (D := D) (ci := 2) (C := R_Cu) (T := T_Cu) (N := 3) hx hb hts in_Cu ty_Cu tk_Cu nm_Cu hown hK.k hP hD hS (i := 0) (by decide) rfl rfl 1 (by decide) (hts _ kf_Cu_13) rfl rfl rfl (Nat.le_of_ble_eq_true rfl) d_Cu_bytesDone_23 (fun H locs hP hS hz hq => ?_)
  have hP : nw D vcl lt1 ad (cuC true (cp - 1) cb) H := nw_congr hP (cuC_p)
  refine lv_iload_n hx hb d_Cu_bytesDone_26 rfl (lv_at hl 1 rfl) ?_
  exact end_I F hr hlk rfl hP hS d_Cu_bytesDone_27
set_option maxRecDepth 100000 in
set_option maxHeartbeats 4000000 in
theorem c_Cu_bd2 (l : Launch) (D : va_G) (cy : Nat → ClassId) (ad : Nat → Nat) (cb z : Nat) (hz : 0 < z) (hz1 : z < 2 ^ 31) (hc : cb < 2 ^ 31)   : mtI l y_Cu_bytesDone b_Cu_bytesDone 2 (some .int) { frames := 1, cells := 0, slots := 0, locals := 13 } D cy [.ref (ad 0), .int (nI z)] lt1 ad (cuC true 0 cb) (cuC false 0 cb) (nI (min cb (z - 1))) := by
  intro sz
  refine nm_ofW (cc := b_Cu_bytesDone) (maxL := 2) (ret := (some .int)) (own := R_Cu) (by decide) (Nat.le_of_ble_eq_true rfl) rfl ?_
  intro p e s m below meth c ls F hr hlk hnm hv hl
  obtain ⟨hx, hb, hml, hown, hts⟩ := id F
  obtain ⟨rfl, hP, hK, hI⟩ := hv
  have hD : nd (na lt1 ad s.heap.size) lt1 ad := nd_self hI
  have hA : ∀ q, s.heap.size ≤ q → na lt1 ad s.heap.size q := fun q h => Or.inr h
  have hS : va_S (na lt1 ad s.heap.size) s.heap s.heap [] := va_S.rf
  have hl : lv_has ls 2 [(0, .ref (ad 0)), (1, .int (nI z))] := hl
  refine lv_aload_n hx hb d_Cu_bytesDone_0 rfl (lv_at hl 0 rfl) ?_
  refine nw_get (D := D) (ci := 2) (C := R_Cu) (T := T_Cu) (N := 3) hx hb hts in_Cu hown hK.k hP (i := 0) (by decide) rfl rfl 0 (by decide) (hts _ kf_Cu_7) rfl d_Cu_bytesDone_1 ?_
  refine lv_if_ne (tgt := 9) hx hb d_Cu_bytesDone_4 (by decide) (fun c4 => ?_) (fun c4 => absurd c4 (show bI true = 0 → False from fun z => absurd z (by decide)))
  refine lv_aload_n hx hb d_Cu_bytesDone_9 rfl (lv_at hl 0 rfl) ?_
  refine nw_get (D := D) (ci := 2) (C := R_Cu) (T := T_Cu) (N := 3) hx hb hts in_Cu hown hK.k hP (i := 0) (by decide) rfl rfl 1 (by decide) (hts _ kf_Cu_13) rfl d_Cu_bytesDone_10 ?_
  refine lv_if_le (tgt := 28) hx hb d_Cu_bytesDone_13 (by decide) (fun c13 => ?_) (fun c13 => absurd ((nI_zl (by omega)).mpr (by omega)) c13)
  refine lv_aload_n hx hb d_Cu_bytesDone_28 rfl (lv_at hl 0 rfl) ?_
  refine lv_iconst (v := bI false) hx hb d_Cu_bytesDone_29 (by decide) ?_
  refine nw_put (D := D) (ci := 2) (C := R_Cu) (T := T_Cu) (N := 3) hx hb hts in_Cu ty_Cu tk_Cu nm_Cu hown hK.k hP hD hS (i := 0) (by decide) rfl rfl 0 (by decide) (hts _ kf_Cu_7) rfl (bI_nar _) (bI_fit _) (Nat.le_of_ble_eq_true rfl) d_Cu_bytesDone_30 (fun H locs hP hS hz hq => ?_)
  have hP : nw D vcl lt1 ad (cuC false 0 cb) H := nw_congr hP (cuC_w)
  refine lv_aload_n hx hb d_Cu_bytesDone_33 rfl (lv_at hl 0 rfl) ?_
  refine nw_get (D := D) (ci := 2) (C := R_Cu) (T := T_Cu) (N := 3) hx hb hts in_Cu hown hK.k hP (i := 0) (by decide) rfl rfl 2 (by decide) (hts _ kf_Cu_17) rfl d_Cu_bytesDone_34 ?_
  refine lv_iload_n hx hb d_Cu_bytesDone_37 rfl (lv_at hl 1 rfl) ?_
  refine lv_iconst (v := nI 1) hx hb d_Cu_bytesDone_38 (by decide) ?_
  refine lv_isub hx hb d_Cu_bytesDone_39 ?_
  refine lv_eqi (pk_sub (by omega)) ?_
  refine va_mmin hx hb (hml.trans hl.1.symm) hown (hts _ km_Cu_20) (hts _ kt_min) (hts _ k0_math) (hts _ kc_min) (Nat.le_of_ble_eq_true rfl) (Nat.le_of_ble_eq_true rfl) (Nat.le_refl _) (Nat.le_refl _) d_Cu_bytesDone_40 ?_
  refine lv_eqi (nI_min (by omega) (by omega)) ?_
  exact end_I F hr hlk rfl hP hS d_Cu_bytesDone_43
theorem c_Cu_bytesDone (l : Launch) (D : va_G) (cy : Nat → ClassId) (ad : Nat → Nat) (w : Bool) (cp cb z : Nat) (hz : 0 < z) (hz1 : z < 2 ^ 31) (hc : cb < 2 ^ 31) (hp : cp < 2 ^ 31) : mtI l y_Cu_bytesDone b_Cu_bytesDone 2 (some .int) { frames := 1, cells := 0, slots := 0, locals := 13 } D cy [.ref (ad 0), .int (nI z)] lt1 ad (cuC w cp cb) (cuC (cutW w cp) (cutP w cp) cb) (nI (cutN w cp cb z)) := by
  cases w with
  | false => exact c_Cu_bd0 l D cy ad cp cb z hz hz1 hc hp
  | true =>
    rcases Nat.eq_zero_or_pos cp with h | h
    · subst h
      exact c_Cu_bd2 l D cy ad cb z hz hz1 hc
    · have h1 := c_Cu_bd1 l D cy ad cp cb z hz hz1 hc hp h
      have e1 : cutW true cp = true := by simp [cutW, h]
      have e2 : cutN true cp cb z = z := by simp [cutN]; omega
      rw [e1, e2]
      exact h1

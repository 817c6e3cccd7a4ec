/-! TornLog$Block: the search for records, the place of one, writing -/
/-- how many records stand from p on (k at most), and where they end -/
def scan (f : Nat → Nat) : Nat → Nat → Nat × Nat
  | 0, p => (0, p)
  | k + 1, p => if whole f p = true then ((scan f k (p + szf f p)).1 + 1, (scan f k (p + szf f p)).2) else (0, p)
/-- where record j stands -/
def pla (f : Nat → Nat) : Nat → Nat
  | 0 => 6
  | j + 1 => pla f j + szf f (pla f j)
theorem whole_le {f : Nat → Nat} {a : Nat} (h : whole f a = true) : a + szf f a ≤ 2046 := by
  unfold whole at h
  simp only [Bool.and_eq_true, decide_eq_true_eq] at h
  exact h.1
theorem upN_ge {g b : Nat → Nat} {k : Nat} : ∀ {i j : Nat}, k + i ≤ j → upN g k b i j = g j
  | 0, j, _ => rfl
  | i + 1, j, h => by
    show va_up (upN g k b i) (k + i) (b i) j = g j
    rw [va_up_ne _ _ (by omega)]
    exact upN_ge (by omega)
theorem upN_lt {g b : Nat → Nat} {k : Nat} : ∀ {i j : Nat}, j < k → upN g k b i j = g j
  | 0, j, _ => rfl
  | i + 1, j, h => by
    show va_up (upN g k b i) (k + i) (b i) j = g j
    rw [va_up_ne _ _ (by omega)]
    exact upN_lt (by omega)
theorem upN_in {g b : Nat → Nat} {k : Nat} : ∀ {i j : Nat}, j < i → upN g k b i (k + j) = b j
  | i + 1, j, h => by
    show va_up (upN g k b i) (k + i) (b i) (k + j) = b j
    by_cases hj : j = i
    · subst hj; rw [va_up_self]
    · rw [va_up_ne _ _ (by omega)]; exact upN_in (by omega)
theorem upN_256 {g b : Nat → Nat} {k n : Nat} (hg : ∀ j, j < n → g j < 256) : ∀ {i : Nat}, (∀ j, j < i → b j < 256) → ∀ j, j < n → upN g k b i j < 256 := by
  intro i hb j hj
  by_cases h1 : j < k
  · rw [upN_lt h1]; exact hg j hj
  · by_cases h2 : j < k + i
    · rw [show j = k + (j - k) by omega, upN_in (by omega)]; exact hb _ (by omega)
    · rw [upN_ge (by omega)]; exact hg j hj
set_option maxRecDepth 100000 in
set_option maxHeartbeats 4000000 in
theorem c_Bk_findRecords (l : Launch) (D : va_G) (cy : Nat → ClassId) (ad : Nat → Nat) (n er rc re : Nat) (g : Nat → Nat) (hn : n < 2 ^ 16) (hg : ∀ j, j < n → g j < 256) (r1 r2 : Nat) (hs : scan (vc n g) 226 6 = (r1, r2)) : mtV l y_Bk_findRecords b_Bk_findRecords 2 { frames := 4, cells := 0, slots := 0, locals := 89 } D cy [.ref (ad 0)] lt2 ad (bkC cy ad n g er rc re) (bkC cy ad n g er r1 r2) := by
  intro sz
  refine nm_ofW (cc := b_Bk_findRecords) (maxL := 2) (ret := none) (own := R_Bk) (by decide) (Nat.le_of_ble_eq_true rfl) rfl ?_
  intro p e s m below meth c ls F hr hlk hnm hv hl
  obtain ⟨hx, hb, hml, hown, hts⟩ := id F
  obtain ⟨rfl, hP, hK, hI⟩ := hv
  have hD : nd (na lt2 ad s.heap.size) lt2 ad := nd_self hI
  have hA : ∀ q, s.heap.size ≤ q → na lt2 ad s.heap.size q := fun q h => Or.inr h
  have hS : va_S (na lt2 ad s.heap.size) s.heap s.heap [] := va_S.rf
  have hl : lv_has ls 2 [(0, .ref (ad 0))] := hl
  refine lv_aload_n hx hb d_Bk_findRecords_0 rfl (lv_at hl 0 rfl) ?_
  refine lv_iconst (v := nI 0) hx hb d_Bk_findRecords_1 (by decide) ?_
  refine nw_put (D := D) (ci := 0) (C := R_Bk) (T := T_Bk) (N := 5) hx hb hts in_Bk ty_Bk tk_Bk nm_Bk hown hK.k hP hD hS (i := 0) (by decide) rfl rfl 3 (by decide) (hts _ kf_Bk_22) rfl rfl rfl (Nat.le_of_ble_eq_true rfl) d_Bk_findRecords_2 (fun H locs hP hS hz hq => ?_)
  have hP : nw D vcl lt2 ad (bkC cy ad n g er 0 re) H := nw_congr hP (bkC_rc)
  refine lv_aload_n hx hb d_Bk_findRecords_5 rfl (lv_at hl 0 rfl) ?_
  refine lv_bipush (v := nI 6) hx hb d_Bk_findRecords_6 (by decide) ?_
  refine nw_put (D := D) (ci := 0) (C := R_Bk) (T := T_Bk) (N := 5) hx hb hts in_Bk ty_Bk tk_Bk nm_Bk hown hK.k hP hD hS (i := 0) (by decide) rfl rfl 4 (by decide) (hts _ kf_Bk_25) rfl rfl rfl (Nat.le_of_ble_eq_true rfl) d_Bk_findRecords_8 (fun H locs hP hS hz hq => ?_)
  have hP : nw D vcl lt2 ad (bkC cy ad n g er 0 6) H := nw_congr hP (bkC_re)
  refine lv_iconst (v := nI 0) hx hb d_Bk_findRecords_11 (by decide) ?_
  refine lv_istore_n (lv' := [(1, .int (nI 0)), (0, .ref (ad 0))]) hx hb d_Bk_findRecords_12 rfl hl (by decide) rfl (fun ls hl => ?_)
  have loop : ∀ (j i q : Nat), i + j = 226 → q ≤ 2046 → (i + (scan (vc n g) j q).1, (scan (vc n g) j q).2) = (r1, r2) → ∀ (H : Heap) (locs : List Loc) (ls : Array Slot), nw D vcl lt2 ad (bkC cy ad n g er i q) H → va_S (na lt2 ad s.heap.size) s.heap H locs → lv_has ls 2 [(1, .int (nI i)), (0, .ref (ad 0))] → W p l e { frames := 4, cells := 0, slots := 0, locals := 89 } s m [.ref (ad 0)].toArray below meth c H locs 0 0 (MQ below (va_Qv (fun _ : Unit => True) (fun _ t => nw D vcl lt2 ad (bkC cy ad n g er r1 r2) t.heap) (na lt2 ad s.heap.size)) [.ref (ad 0)].toArray s 0 0 (na lt2 ad s.heap.size)) (F0 m 13 ls []) := by
    intro j
    induction j with
    | zero =>
      intro i q hi hq he H locs ls hP hS hl
      obtain ⟨rfl, rfl⟩ := Prod.mk.inj he
      refine lv_iload_n hx hb d_Bk_findRecords_13 rfl (lv_at hl 0 rfl) ?_
      refine lv_sipush (v := nI 226) hx hb d_Bk_findRecords_14 (by decide) ?_
      refine lv_icmp_ge (tgt := 60) hx hb d_Bk_findRecords_17 (by decide) (fun c17 => ?_) (fun c17 => absurd ((nI_leI (by omega) (by omega)).mpr (by omega)) c17)
      exact end_V F hr hlk hP hS d_Bk_findRecords_60
    | succ j ih =>
      intro i q hi hq he H locs ls hP hS hl
      have hv := vc_lt (n := n) hg
      have hz := szf_lt hv q
      refine lv_iload_n hx hb d_Bk_findRecords_13 rfl (lv_at hl 0 rfl) ?_
      refine lv_sipush (v := nI 226) hx hb d_Bk_findRecords_14 (by decide) ?_
      refine lv_icmp_ge (tgt := 60) hx hb d_Bk_findRecords_17 (by decide) (fun c17 => absurd c17 (fun z => absurd ((nI_leI (by omega) (by omega)).mp z) (by omega))) (fun c17 => ?_)
      refine lv_aload_n hx hb d_Bk_findRecords_20 rfl (lv_at hl 1 rfl) ?_
      refine call_R (As := []) (rest := []) F hK (c_Bk_nextIsWhole l D cy ad n er i q g hn hg (by omega)) km_Bk_49 ki_Bk_nextIsWhole ks_Bk_nextIsWhole k0_Bk kc_Bk_nextIsWhole kd_Bk_nextIsWhole ⟨Nat.le_of_ble_eq_true rfl, Nat.le_of_ble_eq_true rfl⟩ (nw_recv hK.k hP (i := 0) (by decide) rfl rfl) (hP) (hI) hl.1 rfl (Nat.le_of_ble_eq_true rfl) d_Bk_findRecords_21 ⟨(Nat.le_of_ble_eq_true rfl), (Nat.le_of_ble_eq_true rfl)⟩ hS (fun H1 locs1 hN hS => ?_)
      have hP := hN _ _ _ hP
      generalize H1 = H at hP hS ⊢
      refine lv_if_eq (tgt := 60) hx hb d_Bk_findRecords_24 (by decide) (fun c24 => ?_) (fun c24 => ?_)
      · have c24 := bI_eq0.mp c24
        simp only [scan, c24] at he
        obtain ⟨rfl, rfl⟩ := Prod.mk.inj he
        exact end_V F hr hlk hP hS d_Bk_findRecords_60
      · have c24 := mt bI_eq0.mpr c24
        have c24 : whole (vc n g) q = true := by simpa using c24
        have hq1 := whole_le c24
        refine lv_aload_n hx hb d_Bk_findRecords_27 rfl (lv_at hl 1 rfl) ?_
        refine lv_dup hx hb d_Bk_findRecords_28 rfl ?_
        refine nw_get (D := D) (ci := 0) (C := R_Bk) (T := T_Bk) (N := 5) hx hb hts in_Bk hown hK.k hP (i := 0) (by decide) rfl rfl 4 (by decide) (hts _ kf_Bk_25) rfl d_Bk_findRecords_29 ?_
        refine lv_aload_n hx hb d_Bk_findRecords_32 rfl (lv_at hl 1 rfl) ?_
        refine lv_aload_n hx hb d_Bk_findRecords_33 rfl (lv_at hl 1 rfl) ?_
        refine nw_get (D := D) (ci := 0) (C := R_Bk) (T := T_Bk) (N := 5) hx hb hts in_Bk hown hK.k hP (i := 0) (by decide) rfl rfl 4 (by decide) (hts _ kf_Bk_25) rfl d_Bk_findRecords_34 ?_
        refine call_R (As := [.int (nI q)]) (rest := [.int (nI q), .ref (ad 0)]) F hK (c_Bk_sizeOf l D cy ad q n er i q g hn hg (by omega)) km_Bk_53 ki_Bk_sizeOf ks_Bk_sizeOf k0_Bk kc_Bk_sizeOf kd_Bk_sizeOf ⟨Nat.le_of_ble_eq_true rfl, Nat.le_of_ble_eq_true rfl⟩ (nw_recv hK.k hP (i := 0) (by decide) rfl rfl) (hP) (hI) hl.1 rfl (Nat.le_of_ble_eq_true rfl) d_Bk_findRecords_37 ⟨(Nat.le_of_ble_eq_true rfl), (Nat.le_of_ble_eq_true rfl)⟩ hS (fun H1 locs1 hN hS => ?_)
        have hP := hN _ _ _ hP
        generalize H1 = H at hP hS ⊢
        refine lv_iadd hx hb d_Bk_findRecords_40 ?_
        refine lv_eqi (nI_add _ _) ?_
        refine nw_put (D := D) (ci := 0) (C := R_Bk) (T := T_Bk) (N := 5) hx hb hts in_Bk ty_Bk tk_Bk nm_Bk hown hK.k hP hD hS (i := 0) (by decide) rfl rfl 4 (by decide) (hts _ kf_Bk_25) rfl rfl rfl (Nat.le_of_ble_eq_true rfl) d_Bk_findRecords_41 (fun H locs hP hS hz hq => ?_)
        have hP : nw D vcl lt2 ad (bkC cy ad n g er i (q + szf (vc n g) q)) H := nw_congr hP (bkC_re)
        refine lv_aload_n hx hb d_Bk_findRecords_44 rfl (lv_at hl 1 rfl) ?_
        refine lv_dup hx hb d_Bk_findRecords_45 rfl ?_
        refine nw_get (D := D) (ci := 0) (C := R_Bk) (T := T_Bk) (N := 5) hx hb hts in_Bk hown hK.k hP (i := 0) (by decide) rfl rfl 3 (by decide) (hts _ kf_Bk_22) rfl d_Bk_findRecords_46 ?_
        refine lv_iconst (v := nI 1) hx hb d_Bk_findRecords_49 (by decide) ?_
        refine lv_iadd hx hb d_Bk_findRecords_50 ?_
        refine lv_eqi (nI_add _ _) ?_
        refine nw_put (D := D) (ci := 0) (C := R_Bk) (T := T_Bk) (N := 5) hx hb hts in_Bk ty_Bk tk_Bk nm_Bk hown hK.k hP hD hS (i := 0) (by decide) rfl rfl 3 (by decide) (hts _ kf_Bk_22) rfl rfl rfl (Nat.le_of_ble_eq_true rfl) d_Bk_findRecords_51 (fun H locs hP hS hz hq => ?_)
        have hP : nw D vcl lt2 ad (bkC cy ad n g er (i + 1) (q + szf (vc n g) q)) H := nw_congr hP (bkC_rc)
        refine lv_iinc (v := nI (i + 1)) (lv' := [(1, .int (nI (i + 1))), (0, .ref (ad 0))]) hx hb d_Bk_findRecords_54 hl (k := 0) rfl (nI_inc _) (by decide) rfl (fun ls hl => ?_)
        refine lv_goto (tgt := 13) hx hb d_Bk_findRecords_57 (by decide) ?_
        refine ih (i + 1) (q + szf (vc n g) q) (by omega) (by omega) ?_ _ _ _ hP hS (lv_sub hl [0, 1] rfl)
        rw [← he]
        simp only [scan, c24, if_true]
        rw [show i + 1 + (scan (vc n g) j (q + szf (vc n g) q)).1 = i + ((scan (vc n g) j (q + szf (vc n g) q)).1 + 1) by omega]
  exact loop 226 0 6 (by omega) (by omega) (by rw [hs, Nat.zero_add]) _ _ _ hP hS (lv_sub hl [0, 1] rfl)
set_option maxRecDepth 100000 in
set_option maxHeartbeats 4000000 in
theorem c_Bk_placeOf (l : Launch) (D : va_G) (cy : Nat → ClassId) (ad : Nat → Nat) (i : Nat) (n er rc re : Nat) (g : Nat → Nat) (hn : n < 2 ^ 16) (hg : ∀ j, j < n → g j < 256) (hi : i < 2 ^ 31) (hp : ∀ j, j ≤ i → pla (vc n g) j < 2 ^ 16) : mtR l y_Bk_placeOf b_Bk_placeOf 4 (some .int) { frames := 3, cells := 0, slots := 0, locals := 66 } D cy [.ref (ad 0), .int (nI i)] lt2 ad (bkC cy ad n g er rc re) (nI (pla (vc n g) i)) := by
  intro sz
  refine nm_ofW (cc := b_Bk_placeOf) (maxL := 4) (ret := (some .int)) (own := R_Bk) (by decide) (Nat.le_of_ble_eq_true rfl) rfl ?_
  intro p e s m below meth c ls F hr hlk hnm hv hl
  obtain ⟨hx, hb, hml, hown, hts⟩ := id F
  obtain ⟨rfl, hP, hK, hI⟩ := hv
  have hD : nd (na lt2 ad s.heap.size) lt2 ad := nd_self hI
  have hS : va_S (fun _ => False) s.heap s.heap [] := va_S.rf
  have hl : lv_has ls 4 [(0, .ref (ad 0)), (1, .int (nI i))] := hl
  refine lv_bipush (v := nI 6) hx hb d_Bk_placeOf_0 (by decide) ?_
  refine lv_istore_n (lv' := [(2, .int (nI 6)), (0, .ref (ad 0)), (1, .int (nI i))]) hx hb d_Bk_placeOf_2 rfl hl (by decide) rfl (fun ls hl => ?_)
  refine lv_iconst (v := nI 0) hx hb d_Bk_placeOf_3 (by decide) ?_
  refine lv_istore_n (lv' := [(3, .int (nI 0)), (2, .int (nI 6)), (0, .ref (ad 0)), (1, .int (nI i))]) hx hb d_Bk_placeOf_4 rfl hl (by decide) rfl (fun ls hl => ?_)
  have loop : ∀ (j b : Nat), b + j = i → ∀ (H : Heap) (locs : List Loc) (ls : Array Slot), nw D vcl lt2 ad (bkC cy ad n g er rc re) H → va_S (fun _ => False) s.heap H locs → lv_has ls 4 [(3, .int (nI b)), (2, .int (nI (pla (vc n g) b))), (0, .ref (ad 0)), (1, .int (nI i))] → W p l e { frames := 3, cells := 0, slots := 0, locals := 66 } s m [.ref (ad 0), .int (nI i)].toArray below meth c H locs 0 0 (MQ below (va_Qi (fun r' (_ : Unit) => r' = nI (pla (vc n g) i)) (fun _ _ => True) (fun _ => False)) [.ref (ad 0), .int (nI i)].toArray s 0 0 (fun _ => False)) (F0 m 5 ls []) := by
    intro j
    induction j with
    | zero =>
      intro b hi2 H locs ls hP hS hl
      obtain rfl : b = i := by omega
      refine lv_iload_n hx hb d_Bk_placeOf_5 rfl (lv_at hl 0 rfl) ?_
      refine lv_iload_n hx hb d_Bk_placeOf_6 rfl (lv_at hl 3 rfl) ?_
      refine lv_icmp_ge (tgt := 24) hx hb d_Bk_placeOf_7 (by decide) (fun c7 => ?_) (fun c7 => absurd ((nI_leI (by omega) (by omega)).mpr (by omega)) c7)
      refine lv_iload_n hx hb d_Bk_placeOf_24 rfl (lv_at hl 1 rfl) ?_
      exact end_R F hr hlk rfl hS d_Bk_placeOf_25
    | succ j ih =>
      intro b hi2 H locs ls hP hS hl
      refine lv_iload_n hx hb d_Bk_placeOf_5 rfl (lv_at hl 0 rfl) ?_
      refine lv_iload_n hx hb d_Bk_placeOf_6 rfl (lv_at hl 3 rfl) ?_
      refine lv_icmp_ge (tgt := 24) hx hb d_Bk_placeOf_7 (by decide) (fun c7 => absurd c7 (fun z => absurd ((nI_leI (by omega) (by omega)).mp z) (by omega))) (fun c7 => ?_)
      refine lv_iload_n hx hb d_Bk_placeOf_10 rfl (lv_at hl 1 rfl) ?_
      refine lv_aload_n hx hb d_Bk_placeOf_11 rfl (lv_at hl 2 rfl) ?_
      refine lv_iload_n hx hb d_Bk_placeOf_12 rfl (lv_at hl 1 rfl) ?_
      refine call_R (As := [.int (nI (pla (vc n g) b))]) (rest := [.int (nI (pla (vc n g) b))]) F hK (c_Bk_sizeOf l D cy ad (pla (vc n g) b) n er rc re g hn hg (hp b (by omega))) km_Bk_53 ki_Bk_sizeOf ks_Bk_sizeOf k0_Bk kc_Bk_sizeOf kd_Bk_sizeOf ⟨Nat.le_of_ble_eq_true rfl, Nat.le_of_ble_eq_true rfl⟩ (nw_recv hK.k hP (i := 0) (by decide) rfl rfl) (hP) (hI) hl.1 rfl (Nat.le_of_ble_eq_true rfl) d_Bk_placeOf_13 ⟨(Nat.le_of_ble_eq_true rfl), (Nat.le_of_ble_eq_true rfl)⟩ hS (fun H1 locs1 hN hS => ?_)
      have hP := hN _ _ _ hP
      generalize H1 = H at hP hS ⊢
      refine lv_iadd hx hb d_Bk_placeOf_16 ?_
      refine lv_eqi (nI_add _ _) ?_
      refine lv_istore_n (lv' := [(2, .int (nI (pla (vc n g) (b + 1)))), (3, .int (nI b)), (0, .ref (ad 0)), (1, .int (nI i))]) hx hb d_Bk_placeOf_17 rfl hl (by decide) rfl (fun ls hl => ?_)
      refine lv_iinc (v := nI (b + 1)) (lv' := [(3, .int (nI (b + 1))), (2, .int (nI (pla (vc n g) (b + 1)))), (0, .ref (ad 0)), (1, .int (nI i))]) hx hb d_Bk_placeOf_18 hl (k := 1) rfl (nI_inc _) (by decide) rfl (fun ls hl => ?_)
      refine lv_goto (tgt := 5) hx hb d_Bk_placeOf_21 (by decide) ?_
      exact ih (b + 1) (by omega) _ _ _ hP hS (lv_sub hl [0, 1, 2, 3] rfl)
  exact loop i 0 (by omega) _ _ _ hP hS (lv_sub hl [0, 1, 2, 3] rfl)
set_option maxRecDepth 100000 in
set_option maxHeartbeats 4000000 in
theorem c_Bk_writeCell (l : Launch) (D : va_G) (cy : Nat → ClassId) (ad : Nat → Nat) (a v : Nat) (n er rc re : Nat) (g : Nat → Nat) (hn : n < 2 ^ 16) (hg : ∀ j, j < n → g j < 256) (ha : a < n) (h255 : g a = 255) (hv : v < 256) : mtV l y_Bk_writeCell b_Bk_writeCell 3 { frames := 1, cells := 0, slots := 0, locals := 21 } D cy [.ref (ad 0), .int (nI a), .int (nI v)] lt2 ad (bkC cy ad n g er rc re) (bkC cy ad n (va_up g a v) er rc re) := by
  intro sz
  refine nm_ofW (cc := b_Bk_writeCell) (maxL := 3) (ret := none) (own := R_Bk) (by decide) (Nat.le_of_ble_eq_true rfl) rfl ?_
  intro p e s m below meth c ls F hr hlk hnm hv hl
  obtain ⟨hx, hb, hml, hown, hts⟩ := id F
  obtain ⟨rfl, hP, hK, hI⟩ := hv
  have hD : nd (na lt2 ad s.heap.size) lt2 ad := nd_self hI
  have hA : ∀ q, s.heap.size ≤ q → na lt2 ad s.heap.size q := fun q h => Or.inr h
  have hS : va_S (na lt2 ad s.heap.size) s.heap s.heap [] := va_S.rf
  have hl : lv_has ls 3 [(0, .ref (ad 0)), (1, .int (nI a)), (2, .int (nI v))] := hl
  refine lv_iload_n hx hb d_Bk_writeCell_0 rfl (lv_at hl 1 rfl) ?_
  refine lv_if_lt (tgt := 13) hx hb d_Bk_writeCell_1 (by decide) (fun c1 => absurd c1 (nI_pos (by omega))) (fun c1 => ?_)
  refine lv_iload_n hx hb d_Bk_writeCell_4 rfl (lv_at hl 1 rfl) ?_
  refine lv_aload_n hx hb d_Bk_writeCell_5 rfl (lv_at hl 0 rfl) ?_
  refine nw_get (D := D) (ci := 0) (C := R_Bk) (T := T_Bk) (N := 5) hx hb hts in_Bk hown hK.k hP (i := 0) (by decide) rfl rfl 0 (by decide) (hts _ kf_Bk_9) rfl d_Bk_writeCell_6 ?_
  refine nw_alen hx hb hK.k hP (i := 1) (by decide) rfl 0 rfl (v := nI n) rfl d_Bk_writeCell_9 ?_
  refine lv_icmp_lt (tgt := 14) hx hb d_Bk_writeCell_10 (by decide) (fun c10 => ?_) (fun c10 => absurd ((nI_ltI (by omega) (by omega)).mpr (by omega)) c10)
  refine lv_aload_n hx hb d_Bk_writeCell_14 rfl (lv_at hl 0 rfl) ?_
  refine lv_iload_n hx hb d_Bk_writeCell_15 rfl (lv_at hl 1 rfl) ?_
  refine call_R (As := [.int (nI a)]) (rest := []) F hK (c_Bk_cell l D cy ad a n er rc re g hn hg (by omega)) km_Bk_46 ki_Bk_cell ks_Bk_cell k0_Bk kc_Bk_cell kd_Bk_cell ⟨Nat.le_of_ble_eq_true rfl, Nat.le_of_ble_eq_true rfl⟩ (nw_recv hK.k hP (i := 0) (by decide) rfl rfl) (hP) (hI) hl.1 rfl (Nat.le_of_ble_eq_true rfl) d_Bk_writeCell_16 ⟨(Nat.le_of_ble_eq_true rfl), (Nat.le_of_ble_eq_true rfl)⟩ hS (fun H1 locs1 hN hS => ?_)
  have hP := hN _ _ _ hP
  generalize H1 = H at hP hS ⊢
  refine lv_eqi (y := nI 255) (by rw [show vc n g a = 255 by simp [vc, ha, h255]]) ?_
  refine lv_sipush (v := nI 255) hx hb d_Bk_writeCell_19 (by decide) ?_
  refine lv_icmp_eq (tgt := 35) hx hb d_Bk_writeCell_22 (by decide) (fun c22 => ?_) (fun c22 => absurd ((nI_eq (by omega) (by omega)).mpr (by omega)) c22)
  refine lv_aload_n hx hb d_Bk_writeCell_35 rfl (lv_at hl 0 rfl) ?_
  refine nw_get (D := D) (ci := 0) (C := R_Bk) (T := T_Bk) (N := 5) hx hb hts in_Bk hown hK.k hP (i := 0) (by decide) rfl rfl 0 (by decide) (hts _ kf_Bk_9) rfl d_Bk_writeCell_36 ?_
  refine lv_iload_n hx hb d_Bk_writeCell_39 rfl (lv_at hl 1 rfl) ?_
  refine lv_iload_n hx hb d_Bk_writeCell_40 rfl (lv_at hl 2 rfl) ?_
  refine lv_i2b hx hb d_Bk_writeCell_41 rfl ?_
  refine nw_bast hx hb hK.k hP hD hS (i := 1) (by decide) rfl 0 rfl (vp_in_nI (by omega) (by omega)) d_Bk_writeCell_42 (fun H locs hP hS hz hq => ?_)
  rw [nI_clamp (by omega), sb_na, show bof (nI v) = v by rw [bof_nI (by omega)]; omega, by_upd] at hP
  have hP : nw D vcl lt2 ad (bkC cy ad n (va_up g a v) er rc re) H := nw_congr hP (bkC_row)
  exact end_V F hr hlk hP hS d_Bk_writeCell_43

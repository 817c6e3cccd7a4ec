/-! TornLog$Block: names 0 the object, 1 its cells; n how many, g what they hold, er erasings, rc records, re recordsEnd (overwritten is 0) -/
def bkC (cy : Nat → ClassId) (ad : Nat → Nat) (n : Nat) (g : Nat → Nat) (er rc re : Nat) : Nat → va_E := fun i => if i = 0 then .inr (0, [.ref (ad 1), .int (nI er), .int (nI 0), .int (nI rc), .int (nI re)]) else .inl (cy 0, n, .inl (fun j => sb_b (g j)))
theorem bkC_row {cy : Nat → ClassId} {ad : Nat → Nat} {n er rc re : Nat} {g g' : Nat → Nat} : ∀ i, lt2 i → va_up (bkC cy ad n g er rc re) 1 (.inl (cy 0, n, .inl (fun j => sb_b (g' j)))) i = bkC cy ad n g' er rc re i := by
  intro i hi
  rcases (show i = 0 ∨ i = 1 by have hi : i < 2 := hi; omega) with rfl | rfl <;> simp [va_up, bkC]
theorem bkC_er {cy : Nat → ClassId} {ad : Nat → Nat} {n er rc re x : Nat} {g : Nat → Nat} : ∀ i, lt2 i → va_up (bkC cy ad n g er rc re) 0 (.inr (0, [Value.ref (ad 1), Value.int (nI er), Value.int (nI 0), Value.int (nI rc), Value.int (nI re)].set 1 (Value.int (nI x)))) i = bkC cy ad n g x rc re i := by
  intro i hi
  rcases (show i = 0 ∨ i = 1 by have hi : i < 2 := hi; omega) with rfl | rfl <;> simp [va_up, bkC]
theorem bkC_rc {cy : Nat → ClassId} {ad : Nat → Nat} {n er rc re x : Nat} {g : Nat → Nat} : ∀ i, lt2 i → va_up (bkC cy ad n g er rc re) 0 (.inr (0, [Value.ref (ad 1), Value.int (nI er), Value.int (nI 0), Value.int (nI rc), Value.int (nI re)].set 3 (Value.int (nI x)))) i = bkC cy ad n g er x re i := by
  intro i hi
  rcases (show i = 0 ∨ i = 1 by have hi : i < 2 := hi; omega) with rfl | rfl <;> simp [va_up, bkC]
theorem bkC_re {cy : Nat → ClassId} {ad : Nat → Nat} {n er rc re x : Nat} {g : Nat → Nat} : ∀ i, lt2 i → va_up (bkC cy ad n g er rc re) 0 (.inr (0, [Value.ref (ad 1), Value.int (nI er), Value.int (nI 0), Value.int (nI rc), Value.int (nI re)].set 4 (Value.int (nI x)))) i = bkC cy ad n g er rc x i := by
  intro i hi
  rcases (show i = 0 ∨ i = 1 by have hi : i < 2 := hi; omega) with rfl | rfl <;> simp [va_up, bkC]
/-- a cell: 255 where there is none -/
def vc (n : Nat) (g : Nat → Nat) (a : Nat) : Nat := if a < n then g a else 255
theorem vc_lt {n : Nat} {g : Nat → Nat} (h : ∀ j, j < n → g j < 256) (a : Nat) : vc n g a < 256 := by
  unfold vc
  split
  · exact h a (by assumption)
  · omega
/-- the number in b cells from a on, the highest first -/
def num (f : Nat → Nat) (a : Nat) : Nat → Nat
  | 0 => 0
  | b + 1 => num f a b * 256 + f (a + b)
theorem num_lt {f : Nat → Nat} (h : ∀ a, f a < 256) (a : Nat) : ∀ b, num f a b < 256 ^ b
  | 0 => by simp [num]
  | b + 1 => by
    have h1 := num_lt h a b
    have h2 := h (a + b)
    show num f a b * 256 + f (a + b) < 256 ^ (b + 1)
    rw [Nat.pow_succ]
    omega
theorem nI_or (a b : Nat) : nI a ||| nI b = nI (a ||| b) := by
  apply Int32.toBitVec_inj.mp
  show BitVec.ofNat 32 a ||| BitVec.ofNat 32 b = BitVec.ofNat 32 (a ||| b)
  simp
theorem nI_or8 {x c : Nat} (hc : c < 256) (hx : x < 2 ^ 24) : (nI x <<< (nI 8 &&& 31)) ||| nI c = nI (x * 256 + c) := by
  rw [pk_shlN (nI 8 &&& 31) 8 (by decide) (by omega), nI_or]
  congr 1
  have h := Nat.shiftLeft_add_eq_or_of_lt (i := 8) (show c < 2 ^ 8 by omega) x
  rw [Nat.shiftLeft_eq] at h
  exact h.symm
/-- how many bytes a record at a takes, by its lengths -/
def szf (f : Nat → Nat) (a : Nat) : Nat := 9 + num f (a + 5) 1 + num f (a + 6) 2
theorem szf_lt {f : Nat → Nat} (h : ∀ a, f a < 256) (a : Nat) : szf f a < 65800 := by
  have h1 := num_lt h (a + 5) 1
  have h2 := num_lt h (a + 6) 2
  unfold szf
  omega
def whole (f : Nat → Nat) (a : Nat) : Bool := decide (a + szf f a ≤ 2046) && decide (f (a + szf f a - 1) = 90)
set_option maxRecDepth 100000 in
set_option maxHeartbeats 4000000 in
theorem c_Bk_cell0 (l : Launch) (D : va_G) (cy : Nat → ClassId) (ad : Nat → Nat) (a : Nat) (n er rc re : Nat) (g : Nat → Nat) (hn : n < 2 ^ 16) (hg : ∀ j, j < n → g j < 256) (ha : a < 2 ^ 31) (hi : n ≤ a) : mtR l y_Bk_cell b_Bk_cell 2 (some .int) { frames := 0, cells := 0, slots := 0, locals := 0 } D cy [.ref (ad 0), .int (nI a)] lt2 ad (bkC cy ad n g er rc re) (nI 255) := by
  intro sz
  refine nm_ofW (cc := b_Bk_cell) (maxL := 2) (ret := (some .int)) (own := R_Bk) (by decide) (Nat.le_of_ble_eq_true rfl) rfl ?_
  intro p e s m below meth c ls F hr hlk hnm hv hl
  obtain ⟨hx, hb, hml, hown, hts⟩ := id F
  obtain ⟨rfl, hP, hK, hI⟩ := hv
  have hD : nd (na lt2 ad s.heap.size) lt2 ad := nd_self hI
  have hS : va_S (fun _ => False) s.heap s.heap [] := va_S.rf
  have hl : lv_has ls 2 [(0, .ref (ad 0)), (1, .int (nI a))] := hl
  refine lv_iload_n hx hb d_Bk_cell_0 rfl (lv_at hl 1 rfl) ?_
  refine lv_if_lt (tgt := 26) hx hb d_Bk_cell_1 (by decide) (fun c1 => absurd c1 (nI_pos (by omega))) (fun c1 => ?_)
  refine lv_iload_n hx hb d_Bk_cell_4 rfl (lv_at hl 1 rfl) ?_
  refine lv_aload_n hx hb d_Bk_cell_5 rfl (lv_at hl 0 rfl) ?_
  refine nw_get (D := D) (ci := 0) (C := R_Bk) (T := T_Bk) (N := 5) hx hb hts in_Bk hown hK.k hP (i := 0) (by decide) rfl rfl 0 (by decide) (hts _ kf_Bk_9) rfl d_Bk_cell_6 ?_
  refine nw_alen hx hb hK.k hP (i := 1) (by decide) rfl 0 rfl (v := nI n) rfl d_Bk_cell_9 ?_
  refine lv_icmp_ge (tgt := 26) hx hb d_Bk_cell_10 (by decide) (fun c10 => ?_) (fun c10 => absurd ((nI_leI (by omega) (by omega)).mpr (by omega)) c10)
  refine lv_sipush (v := nI 255) hx hb d_Bk_cell_26 (by decide) ?_
  exact end_R F hr hlk rfl hS d_Bk_cell_29
set_option maxRecDepth 100000 in
set_option maxHeartbeats 4000000 in
theorem c_Bk_cell1 (l : Launch) (D : va_G) (cy : Nat → ClassId) (ad : Nat → Nat) (a : Nat) (n er rc re : Nat) (g : Nat → Nat) (hn : n < 2 ^ 16) (hg : ∀ j, j < n → g j < 256) (ha : a < 2 ^ 31) (hi : a < n) : mtR l y_Bk_cell b_Bk_cell 2 (some .int) { frames := 0, cells := 0, slots := 0, locals := 0 } D cy [.ref (ad 0), .int (nI a)] lt2 ad (bkC cy ad n g er rc re) (nI (g a)) := by
  intro sz
  refine nm_ofW (cc := b_Bk_cell) (maxL := 2) (ret := (some .int)) (own := R_Bk) (by decide) (Nat.le_of_ble_eq_true rfl) rfl ?_
  intro p e s m below meth c ls F hr hlk hnm hv hl
  obtain ⟨hx, hb, hml, hown, hts⟩ := id F
  obtain ⟨rfl, hP, hK, hI⟩ := hv
  have hD : nd (na lt2 ad s.heap.size) lt2 ad := nd_self hI
  have hS : va_S (fun _ => False) s.heap s.heap [] := va_S.rf
  have hl : lv_has ls 2 [(0, .ref (ad 0)), (1, .int (nI a))] := hl
  refine lv_iload_n hx hb d_Bk_cell_0 rfl (lv_at hl 1 rfl) ?_
  refine lv_if_lt (tgt := 26) hx hb d_Bk_cell_1 (by decide) (fun c1 => absurd c1 (nI_pos (by omega))) (fun c1 => ?_)
  refine lv_iload_n hx hb d_Bk_cell_4 rfl (lv_at hl 1 rfl) ?_
  refine lv_aload_n hx hb d_Bk_cell_5 rfl (lv_at hl 0 rfl) ?_
  refine nw_get (D := D) (ci := 0) (C := R_Bk) (T := T_Bk) (N := 5) hx hb hts in_Bk hown hK.k hP (i := 0) (by decide) rfl rfl 0 (by decide) (hts _ kf_Bk_9) rfl d_Bk_cell_6 ?_
  refine nw_alen hx hb hK.k hP (i := 1) (by decide) rfl 0 rfl (v := nI n) rfl d_Bk_cell_9 ?_
  refine lv_icmp_ge (tgt := 26) hx hb d_Bk_cell_10 (by decide) (fun c10 => absurd c10 (fun z => absurd ((nI_leI (by omega) (by omega)).mp z) (by omega))) (fun c10 => ?_)
  refine lv_aload_n hx hb d_Bk_cell_13 rfl (lv_at hl 0 rfl) ?_
  refine nw_get (D := D) (ci := 0) (C := R_Bk) (T := T_Bk) (N := 5) hx hb hts in_Bk hown hK.k hP (i := 0) (by decide) rfl rfl 0 (by decide) (hts _ kf_Bk_9) rfl d_Bk_cell_14 ?_
  refine lv_iload_n hx hb d_Bk_cell_17 rfl (lv_at hl 1 rfl) ?_
  refine nw_bald hx hb hK.k hP (i := 1) (by decide) rfl 0 rfl (vp_in_nI (by omega) (by omega)) d_Bk_cell_18 ?_
  refine lv_eqi (y := sb_b (g a)) (by rw [nI_clamp (by omega)]) ?_
  refine lv_sipush (v := nI 255) hx hb d_Bk_cell_19 (by decide) ?_
  refine lv_iand hx hb d_Bk_cell_22 ?_
  refine lv_eqi (sb_and (hg a hi)) ?_
  refine lv_goto (tgt := 29) hx hb d_Bk_cell_23 (by decide) ?_
  exact end_R F hr hlk rfl hS d_Bk_cell_29
theorem c_Bk_cell (l : Launch) (D : va_G) (cy : Nat → ClassId) (ad : Nat → Nat) (a : Nat) (n er rc re : Nat) (g : Nat → Nat) (hn : n < 2 ^ 16) (hg : ∀ j, j < n → g j < 256) (ha : a < 2 ^ 31) : mtR l y_Bk_cell b_Bk_cell 2 (some .int) { frames := 0, cells := 0, slots := 0, locals := 0 } D cy [.ref (ad 0), .int (nI a)] lt2 ad (bkC cy ad n g er rc re) (nI (vc n g a)) := by
  unfold vc
  split
  · exact c_Bk_cell1 l D cy ad a n er rc re g hn hg ha (by assumption)
  · exact c_Bk_cell0 l D cy ad a n er rc re g hn hg ha (by omega)
set_option maxRecDepth 100000 in
set_option maxHeartbeats 4000000 in
theorem c_Bk_number (l : Launch) (D : va_G) (cy : Nat → ClassId) (ad : Nat → Nat) (a b : Nat) (n er rc re : Nat) (g : Nat → Nat) (hn : n < 2 ^ 16) (hg : ∀ j, j < n → g j < 256) (ha : a + b < 2 ^ 31) (hb4 : b ≤ 4) : mtR l y_Bk_number b_Bk_number 5 (some .int) { frames := 1, cells := 0, slots := 0, locals := 21 } D cy [.ref (ad 0), .int (nI a), .int (nI b)] lt2 ad (bkC cy ad n g er rc re) (nI (num (vc n g) a b)) := by
  intro sz
  refine nm_ofW (cc := b_Bk_number) (maxL := 5) (ret := (some .int)) (own := R_Bk) (by decide) (Nat.le_of_ble_eq_true rfl) rfl ?_
  intro p e s m below meth c ls F hr hlk hnm hv hl
  obtain ⟨hx, hb, hml, hown, hts⟩ := id F
  obtain ⟨rfl, hP, hK, hI⟩ := hv
  have hD : nd (na lt2 ad s.heap.size) lt2 ad := nd_self hI
  have hS : va_S (fun _ => False) s.heap s.heap [] := va_S.rf
  have hl : lv_has ls 5 [(0, .ref (ad 0)), (1, .int (nI a)), (2, .int (nI b))] := hl
  refine lv_iconst (v := nI 0) hx hb d_Bk_number_0 (by decide) ?_
  refine lv_istore_n (lv' := [(3, .int (nI 0)), (0, .ref (ad 0)), (1, .int (nI a)), (2, .int (nI b))]) hx hb d_Bk_number_1 rfl hl (by decide) rfl (fun ls hl => ?_)
  refine lv_iconst (v := nI 0) hx hb d_Bk_number_2 (by decide) ?_
  refine lv_istore (lv' := [(4, .int (nI 0)), (3, .int (nI 0)), (0, .ref (ad 0)), (1, .int (nI a)), (2, .int (nI b))]) hx hb d_Bk_number_3 hl (by decide) rfl (fun ls hl => ?_)
  have loop : ∀ (j i : Nat), i + j = b → ∀ (H : Heap) (locs : List Loc) (ls : Array Slot), nw D vcl lt2 ad (bkC cy ad n g er rc re) H → va_S (fun _ => False) s.heap H locs → lv_has ls 5 [(4, .int (nI i)), (3, .int (nI (num (vc n g) a i))), (0, .ref (ad 0)), (1, .int (nI a)), (2, .int (nI b))] → W p l e { frames := 1, cells := 0, slots := 0, locals := 21 } s m [.ref (ad 0), .int (nI a), .int (nI b)].toArray below meth c H locs 0 0 (MQ below (va_Qi (fun r' (_ : Unit) => r' = nI (num (vc n g) a b)) (fun _ _ => True) (fun _ => False)) [.ref (ad 0), .int (nI a), .int (nI b)].toArray s 0 0 (fun _ => False)) (F0 m 5 ls []) := by
    intro j
    induction j with
    | zero =>
      intro i hi H locs ls hP hS hl
      obtain rfl : i = b := by omega
      refine lv_iload hx hb d_Bk_number_5 (lv_at hl 0 rfl) ?_
      refine lv_iload_n hx hb d_Bk_number_7 rfl (lv_at hl 4 rfl) ?_
      refine lv_icmp_ge (tgt := 31) hx hb d_Bk_number_8 (by decide) (fun c8 => ?_) (fun c8 => absurd ((nI_leI (by omega) (by omega)).mpr (by omega)) c8)
      refine lv_iload_n hx hb d_Bk_number_31 rfl (lv_at hl 1 rfl) ?_
      exact end_R F hr hlk rfl hS d_Bk_number_32
    | succ j ih =>
      intro i hi H locs ls hP hS hl
      have hv := vc_lt (n := n) hg
      have hN24 : num (vc n g) a i < 2 ^ 24 := Nat.lt_of_lt_of_le (num_lt hv a i) (show 256 ^ i ≤ 256 ^ 3 from Nat.pow_le_pow_right (by omega) (by omega))
      refine lv_iload hx hb d_Bk_number_5 (lv_at hl 0 rfl) ?_
      refine lv_iload_n hx hb d_Bk_number_7 rfl (lv_at hl 4 rfl) ?_
      refine lv_icmp_ge (tgt := 31) hx hb d_Bk_number_8 (by decide) (fun c8 => absurd c8 (fun z => absurd ((nI_leI (by omega) (by omega)).mp z) (by omega))) (fun c8 => ?_)
      refine lv_iload_n hx hb d_Bk_number_11 rfl (lv_at hl 1 rfl) ?_
      refine lv_bipush (v := nI 8) hx hb d_Bk_number_12 (by decide) ?_
      refine lv_ishl hx hb d_Bk_number_14 ?_
      refine lv_aload_n hx hb d_Bk_number_15 rfl (lv_at hl 2 rfl) ?_
      refine lv_iload_n hx hb d_Bk_number_16 rfl (lv_at hl 3 rfl) ?_
      refine lv_iload hx hb d_Bk_number_17 (lv_at hl 0 rfl) ?_
      refine lv_iadd hx hb d_Bk_number_19 ?_
      refine lv_eqi (nI_add _ _) ?_
      refine call_R (As := [.int (nI (a + i))]) (rest := [.int ((nI (num (vc n g) a i)) <<< ((nI 8) &&& 31))]) F hK (c_Bk_cell l D cy ad (a + i) n er rc re g hn hg (by omega)) km_Bk_46 ki_Bk_cell ks_Bk_cell k0_Bk kc_Bk_cell kd_Bk_cell ⟨Nat.le_of_ble_eq_true rfl, Nat.le_of_ble_eq_true rfl⟩ (nw_recv hK.k hP (i := 0) (by decide) rfl rfl) (hP) (hI) hl.1 rfl (Nat.le_of_ble_eq_true rfl) d_Bk_number_20 ⟨(Nat.le_of_ble_eq_true rfl), (Nat.le_of_ble_eq_true rfl)⟩ hS (fun H1 locs1 hN hS => ?_)
      have hP := hN _ _ _ hP
      generalize H1 = H at hP hS ⊢
      refine lv_ior hx hb d_Bk_number_23 ?_
      refine lv_eqi (nI_or8 (hv _) hN24) ?_
      refine lv_istore_n (lv' := [(3, .int (nI (num (vc n g) a (i + 1)))), (4, .int (nI i)), (0, .ref (ad 0)), (1, .int (nI a)), (2, .int (nI b))]) hx hb d_Bk_number_24 rfl hl (by decide) rfl (fun ls hl => ?_)
      refine lv_iinc (v := nI (i + 1)) (lv' := [(4, .int (nI (i + 1))), (3, .int (nI (num (vc n g) a (i + 1)))), (0, .ref (ad 0)), (1, .int (nI a)), (2, .int (nI b))]) hx hb d_Bk_number_25 hl (k := 1) rfl (nI_inc _) (by decide) rfl (fun ls hl => ?_)
      refine lv_goto (tgt := 5) hx hb d_Bk_number_28 (by decide) ?_
      exact ih (i + 1) (by omega) _ _ _ hP hS (lv_sub hl [0, 1, 2, 3, 4] rfl)
  exact loop b 0 (by omega) _ _ _ hP hS (lv_sub hl [0, 1, 2, 3, 4] rfl)
set_option maxRecDepth 100000 in
set_option maxHeartbeats 4000000 in
theorem c_Bk_sizeOf (l : Launch) (D : va_G) (cy : Nat → ClassId) (ad : Nat → Nat) (a : Nat) (n er rc re : Nat) (g : Nat → Nat) (hn : n < 2 ^ 16) (hg : ∀ j, j < n → g j < 256) (ha : a < 2 ^ 16) : mtR l y_Bk_sizeOf b_Bk_sizeOf 2 (some .int) { frames := 2, cells := 0, slots := 0, locals := 45 } D cy [.ref (ad 0), .int (nI a)] lt2 ad (bkC cy ad n g er rc re) (nI (szf (vc n g) a)) := by
  intro sz
  refine nm_ofW (cc := b_Bk_sizeOf) (maxL := 2) (ret := (some .int)) (own := R_Bk) (by decide) (Nat.le_of_ble_eq_true rfl) rfl ?_
  intro p e s m below meth c ls F hr hlk hnm hv hl
  obtain ⟨hx, hb, hml, hown, hts⟩ := id F
  obtain ⟨rfl, hP, hK, hI⟩ := hv
  have hD : nd (na lt2 ad s.heap.size) lt2 ad := nd_self hI
  have hS : va_S (fun _ => False) s.heap s.heap [] := va_S.rf
  have hl : lv_has ls 2 [(0, .ref (ad 0)), (1, .int (nI a))] := hl
  refine lv_bipush (v := nI 9) hx hb d_Bk_sizeOf_0 (by decide) ?_
  refine lv_aload_n hx hb d_Bk_sizeOf_2 rfl (lv_at hl 0 rfl) ?_
  refine lv_iload_n hx hb d_Bk_sizeOf_3 rfl (lv_at hl 1 rfl) ?_
  refine lv_iconst (v := nI 5) hx hb d_Bk_sizeOf_4 (by decide) ?_
  refine lv_iadd hx hb d_Bk_sizeOf_5 ?_
  refine lv_eqi (nI_add _ _) ?_
  refine lv_iconst (v := nI 1) hx hb d_Bk_sizeOf_6 (by decide) ?_
  refine call_R (As := [.int (nI (a + 5)), .int (nI 1)]) (rest := [.int (nI 9)]) F hK (c_Bk_number l D cy ad (a + 5) 1 n er rc re g hn hg (by omega) (by omega)) km_Bk_60 ki_Bk_number ks_Bk_number k0_Bk kc_Bk_number kd_Bk_number ⟨Nat.le_of_ble_eq_true rfl, Nat.le_of_ble_eq_true rfl⟩ (nw_recv hK.k hP (i := 0) (by decide) rfl rfl) (hP) (hI) hl.1 rfl (Nat.le_of_ble_eq_true rfl) d_Bk_sizeOf_7 ⟨(Nat.le_of_ble_eq_true rfl), (Nat.le_of_ble_eq_true rfl)⟩ hS (fun H1 locs1 hN hS => ?_)
  have hP := hN _ _ _ hP
  generalize H1 = H at hP hS ⊢
  refine lv_iadd hx hb d_Bk_sizeOf_10 ?_
  refine lv_eqi (nI_add _ _) ?_
  refine lv_aload_n hx hb d_Bk_sizeOf_11 rfl (lv_at hl 0 rfl) ?_
  refine lv_iload_n hx hb d_Bk_sizeOf_12 rfl (lv_at hl 1 rfl) ?_
  refine lv_bipush (v := nI 6) hx hb d_Bk_sizeOf_13 (by decide) ?_
  refine lv_iadd hx hb d_Bk_sizeOf_15 ?_
  refine lv_eqi (nI_add _ _) ?_
  refine lv_iconst (v := nI 2) hx hb d_Bk_sizeOf_16 (by decide) ?_
  refine call_R (As := [.int (nI (a + 6)), .int (nI 2)]) (rest := [.int (nI (9 + num (vc n g) (a + 5) 1))]) F hK (c_Bk_number l D cy ad (a + 6) 2 n er rc re g hn hg (by omega) (by omega)) km_Bk_60 ki_Bk_number ks_Bk_number k0_Bk kc_Bk_number kd_Bk_number ⟨Nat.le_of_ble_eq_true rfl, Nat.le_of_ble_eq_true rfl⟩ (nw_recv hK.k hP (i := 0) (by decide) rfl rfl) (hP) (hI) hl.1 rfl (Nat.le_of_ble_eq_true rfl) d_Bk_sizeOf_17 ⟨(Nat.le_of_ble_eq_true rfl), (Nat.le_of_ble_eq_true rfl)⟩ hS (fun H1 locs1 hN hS => ?_)
  have hP := hN _ _ _ hP
  generalize H1 = H at hP hS ⊢
  refine lv_iadd hx hb d_Bk_sizeOf_20 ?_
  refine lv_eqi (nI_add _ _) ?_
  exact end_R F hr hlk rfl hS d_Bk_sizeOf_21
set_option maxRecDepth 100000 in
set_option maxHeartbeats 4000000 in
theorem c_Bk_hasRoom (l : Launch) (D : va_G) (cy : Nat → ClassId) (ad : Nat → Nat) (z : Nat) (n er rc re : Nat) (g : Nat → Nat) (hn : n < 2 ^ 16) (hg : ∀ j, j < n → g j < 256) (hz : z < 2 ^ 20) (hr0 : re < 2 ^ 20) : mtR l y_Bk_hasRoom b_Bk_hasRoom 2 (some .boolean) { frames := 0, cells := 0, slots := 0, locals := 0 } D cy [.ref (ad 0), .int (nI z)] lt2 ad (bkC cy ad n g er rc re) (bI (decide (re + z ≤ 2046))) := by
  intro sz
  refine nm_ofW (cc := b_Bk_hasRoom) (maxL := 2) (ret := (some .boolean)) (own := R_Bk) (by decide) (Nat.le_of_ble_eq_true rfl) rfl ?_
  intro p e s m below meth c ls F hr hlk hnm hv hl
  obtain ⟨hx, hb, hml, hown, hts⟩ := id F
  obtain ⟨rfl, hP, hK, hI⟩ := hv
  have hD : nd (na lt2 ad s.heap.size) lt2 ad := nd_self hI
  have hS : va_S (fun _ => False) s.heap s.heap [] := va_S.rf
  have hl : lv_has ls 2 [(0, .ref (ad 0)), (1, .int (nI z))] := hl
  refine lv_aload_n hx hb d_Bk_hasRoom_0 rfl (lv_at hl 0 rfl) ?_
  refine nw_get (D := D) (ci := 0) (C := R_Bk) (T := T_Bk) (N := 5) hx hb hts in_Bk hown hK.k hP (i := 0) (by decide) rfl rfl 4 (by decide) (hts _ kf_Bk_25) rfl d_Bk_hasRoom_1 ?_
  refine lv_iload_n hx hb d_Bk_hasRoom_4 rfl (lv_at hl 1 rfl) ?_
  refine lv_iadd hx hb d_Bk_hasRoom_5 ?_
  refine lv_eqi (nI_add _ _) ?_
  refine lv_sipush (v := nI 2046) hx hb d_Bk_hasRoom_6 (by decide) ?_
  refine lv_icmp_gt (tgt := 16) hx hb d_Bk_hasRoom_9 (by decide) (fun c9 => ?_) (fun c9 => ?_)
  · have c9 := (nI_ltI (by omega) (by omega)).mp c9
    refine lv_iconst (v := nI 0) hx hb d_Bk_hasRoom_16 (by decide) ?_
    rw [show decide (re + z ≤ 2046) = false from decide_eq_false (by omega)]
    exact end_R F hr hlk rfl hS d_Bk_hasRoom_17
  · have c9 := mt (nI_ltI (by omega) (by omega)).mpr c9
    refine lv_iconst (v := nI 1) hx hb d_Bk_hasRoom_12 (by decide) ?_
    refine lv_goto (tgt := 17) hx hb d_Bk_hasRoom_13 (by decide) ?_
    rw [show decide (re + z ≤ 2046) = true from decide_eq_true (by omega)]
    exact end_R F hr hlk rfl hS d_Bk_hasRoom_17
set_option maxRecDepth 100000 in
set_option maxHeartbeats 4000000 in
theorem c_Bk_isBegun (l : Launch) (D : va_G) (cy : Nat → ClassId) (ad : Nat → Nat) (n er rc re : Nat) (g : Nat → Nat) (hn : n < 2 ^ 16) (hg : ∀ j, j < n → g j < 256) : mtR l y_Bk_isBegun b_Bk_isBegun 1 (some .boolean) { frames := 1, cells := 0, slots := 0, locals := 21 } D cy [.ref (ad 0)] lt2 ad (bkC cy ad n g er rc re) (bI (decide (vc n g 0 = 90) && decide (vc n g 5 = 90))) := by
  intro sz
  refine nm_ofW (cc := b_Bk_isBegun) (maxL := 1) (ret := (some .boolean)) (own := R_Bk) (by decide) (Nat.le_of_ble_eq_true rfl) rfl ?_
  intro p e s m below meth c ls F hr hlk hnm hv hl
  obtain ⟨hx, hb, hml, hown, hts⟩ := id F
  obtain ⟨rfl, hP, hK, hI⟩ := hv
  have hD : nd (na lt2 ad s.heap.size) lt2 ad := nd_self hI
  have hS : va_S (fun _ => False) s.heap s.heap [] := va_S.rf
  have hl : lv_has ls 1 [(0, .ref (ad 0))] := hl
  have hv := vc_lt (n := n) hg
  have hv0 := hv 0
  have hv5 := hv 5
  refine lv_aload_n hx hb d_Bk_isBegun_0 rfl (lv_at hl 0 rfl) ?_
  refine lv_iconst (v := nI 0) hx hb d_Bk_isBegun_1 (by decide) ?_
  refine call_R (As := [.int (nI 0)]) (rest := []) F hK (c_Bk_cell l D cy ad 0 n er rc re g hn hg (by omega)) km_Bk_46 ki_Bk_cell ks_Bk_cell k0_Bk kc_Bk_cell kd_Bk_cell ⟨Nat.le_of_ble_eq_true rfl, Nat.le_of_ble_eq_true rfl⟩ (nw_recv hK.k hP (i := 0) (by decide) rfl rfl) (hP) (hI) hl.1 rfl (Nat.le_of_ble_eq_true rfl) d_Bk_isBegun_2 ⟨(Nat.le_of_ble_eq_true rfl), (Nat.le_of_ble_eq_true rfl)⟩ hS (fun H1 locs1 hN hS => ?_)
  have hP := hN _ _ _ hP
  generalize H1 = H at hP hS ⊢
  refine lv_bipush (v := nI 90) hx hb d_Bk_isBegun_5 (by decide) ?_
  refine lv_icmp_ne (tgt := 24) hx hb d_Bk_isBegun_7 (by decide) (fun c7 => ?_) (fun c7 => ?_)
  · have c7 := mt (nI_eq (by omega) (by omega)).mpr c7
    refine lv_iconst (v := nI 0) hx hb d_Bk_isBegun_24 (by decide) ?_
    rw [show (decide (vc n g 0 = 90) && decide (vc n g 5 = 90)) = false by simp only [Bool.and_eq_false_imp, decide_eq_true_eq, decide_eq_false_iff_not]; intro; omega]
    exact end_R F hr hlk rfl hS d_Bk_isBegun_25
  · have c7 := (nI_eq (by omega) (by omega)).mp c7
    refine lv_aload_n hx hb d_Bk_isBegun_10 rfl (lv_at hl 0 rfl) ?_
    refine lv_iconst (v := nI 5) hx hb d_Bk_isBegun_11 (by decide) ?_
    refine call_R (As := [.int (nI 5)]) (rest := []) F hK (c_Bk_cell l D cy ad 5 n er rc re g hn hg (by omega)) km_Bk_46 ki_Bk_cell ks_Bk_cell k0_Bk kc_Bk_cell kd_Bk_cell ⟨Nat.le_of_ble_eq_true rfl, Nat.le_of_ble_eq_true rfl⟩ (nw_recv hK.k hP (i := 0) (by decide) rfl rfl) (hP) (hI) hl.1 rfl (Nat.le_of_ble_eq_true rfl) d_Bk_isBegun_12 ⟨(Nat.le_of_ble_eq_true rfl), (Nat.le_of_ble_eq_true rfl)⟩ hS (fun H1 locs1 hN hS => ?_)
    have hP := hN _ _ _ hP
    generalize H1 = H at hP hS ⊢
    refine lv_bipush (v := nI 90) hx hb d_Bk_isBegun_15 (by decide) ?_
    refine lv_icmp_ne (tgt := 24) hx hb d_Bk_isBegun_17 (by decide) (fun c17 => ?_) (fun c17 => ?_)
    · have c17 := mt (nI_eq (by omega) (by omega)).mpr c17
      refine lv_iconst (v := nI 0) hx hb d_Bk_isBegun_24 (by decide) ?_
      rw [show (decide (vc n g 0 = 90) && decide (vc n g 5 = 90)) = false by simp only [Bool.and_eq_false_imp, decide_eq_true_eq, decide_eq_false_iff_not]; intro; omega]
      exact end_R F hr hlk rfl hS d_Bk_isBegun_25
    · have c17 := (nI_eq (by omega) (by omega)).mp c17
      refine lv_iconst (v := nI 1) hx hb d_Bk_isBegun_20 (by decide) ?_
      refine lv_goto (tgt := 25) hx hb d_Bk_isBegun_21 (by decide) ?_
      rw [show (decide (vc n g 0 = 90) && decide (vc n g 5 = 90)) = true by simp; omega]
      exact end_R F hr hlk rfl hS d_Bk_isBegun_25
set_option maxRecDepth 100000 in
set_option maxHeartbeats 4000000 in
theorem c_Bk_nextIsWhole (l : Launch) (D : va_G) (cy : Nat → ClassId) (ad : Nat → Nat) (n er rc re : Nat) (g : Nat → Nat) (hn : n < 2 ^ 16) (hg : ∀ j, j < n → g j < 256) (hr0 : re < 2 ^ 16) : mtR l y_Bk_nextIsWhole b_Bk_nextIsWhole 2 (some .boolean) { frames := 3, cells := 0, slots := 0, locals := 66 } D cy [.ref (ad 0)] lt2 ad (bkC cy ad n g er rc re) (bI (whole (vc n g) re)) := by
  intro sz
  refine nm_ofW (cc := b_Bk_nextIsWhole) (maxL := 2) (ret := (some .boolean)) (own := R_Bk) (by decide) (Nat.le_of_ble_eq_true rfl) rfl ?_
  intro p e s m below meth c ls F hr hlk hnm hv hl
  obtain ⟨hx, hb, hml, hown, hts⟩ := id F
  obtain ⟨rfl, hP, hK, hI⟩ := hv
  have hD : nd (na lt2 ad s.heap.size) lt2 ad := nd_self hI
  have hS : va_S (fun _ => False) s.heap s.heap [] := va_S.rf
  have hl : lv_has ls 2 [(0, .ref (ad 0))] := hl
  have hv := vc_lt (n := n) hg
  have hz := szf_lt hv re
  have hz9 : 9 ≤ szf (vc n g) re := by unfold szf; omega
  refine lv_aload_n hx hb d_Bk_nextIsWhole_0 rfl (lv_at hl 0 rfl) ?_
  refine lv_aload_n hx hb d_Bk_nextIsWhole_1 rfl (lv_at hl 0 rfl) ?_
  refine nw_get (D := D) (ci := 0) (C := R_Bk) (T := T_Bk) (N := 5) hx hb hts in_Bk hown hK.k hP (i := 0) (by decide) rfl rfl 4 (by decide) (hts _ kf_Bk_25) rfl d_Bk_nextIsWhole_2 ?_
  refine call_R (As := [.int (nI re)]) (rest := []) F hK (c_Bk_sizeOf l D cy ad re n er rc re g hn hg (by omega)) km_Bk_53 ki_Bk_sizeOf ks_Bk_sizeOf k0_Bk kc_Bk_sizeOf kd_Bk_sizeOf ⟨Nat.le_of_ble_eq_true rfl, Nat.le_of_ble_eq_true rfl⟩ (nw_recv hK.k hP (i := 0) (by decide) rfl rfl) (hP) (hI) hl.1 rfl (Nat.le_of_ble_eq_true rfl) d_Bk_nextIsWhole_5 ⟨(Nat.le_of_ble_eq_true rfl), (Nat.le_of_ble_eq_true rfl)⟩ hS (fun H1 locs1 hN hS => ?_)
  have hP := hN _ _ _ hP
  generalize H1 = H at hP hS ⊢
  refine lv_istore_n (lv' := [(1, .int (nI (szf (vc n g) re))), (0, .ref (ad 0))]) hx hb d_Bk_nextIsWhole_8 rfl hl (by decide) rfl (fun ls hl => ?_)
  refine lv_aload_n hx hb d_Bk_nextIsWhole_9 rfl (lv_at hl 1 rfl) ?_
  refine lv_iload_n hx hb d_Bk_nextIsWhole_10 rfl (lv_at hl 0 rfl) ?_
  refine call_R (As := [.int (nI (szf (vc n g) re))]) (rest := []) F hK (c_Bk_hasRoom l D cy ad (szf (vc n g) re) n er rc re g hn hg (by omega) (by omega)) km_Bk_56 ki_Bk_hasRoom ks_Bk_hasRoom k0_Bk kc_Bk_hasRoom kd_Bk_hasRoom ⟨Nat.le_of_ble_eq_true rfl, Nat.le_of_ble_eq_true rfl⟩ (nw_recv hK.k hP (i := 0) (by decide) rfl rfl) (hP) (hI) hl.1 rfl (Nat.le_of_ble_eq_true rfl) d_Bk_nextIsWhole_11 ⟨(Nat.le_of_ble_eq_true rfl), (Nat.le_of_ble_eq_true rfl)⟩ hS (fun H1 locs1 hN hS => ?_)
  have hP := hN _ _ _ hP
  generalize H1 = H at hP hS ⊢
  refine lv_if_eq (tgt := 38) hx hb d_Bk_nextIsWhole_14 (by decide) (fun c14 => ?_) (fun c14 => ?_)
  · have c14 := bI_eq0.mp c14
    refine lv_iconst (v := nI 0) hx hb d_Bk_nextIsWhole_38 (by decide) ?_
    rw [show whole (vc n g) re = false by simp [whole]; simp at c14; omega]
    exact end_R F hr hlk rfl hS d_Bk_nextIsWhole_39
  · have c14 := mt bI_eq0.mpr c14
    have c14 : re + szf (vc n g) re ≤ 2046 := by simpa using c14
    refine lv_aload_n hx hb d_Bk_nextIsWhole_17 rfl (lv_at hl 1 rfl) ?_
    refine lv_aload_n hx hb d_Bk_nextIsWhole_18 rfl (lv_at hl 1 rfl) ?_
    refine nw_get (D := D) (ci := 0) (C := R_Bk) (T := T_Bk) (N := 5) hx hb hts in_Bk hown hK.k hP (i := 0) (by decide) rfl rfl 4 (by decide) (hts _ kf_Bk_25) rfl d_Bk_nextIsWhole_19 ?_
    refine lv_iload_n hx hb d_Bk_nextIsWhole_22 rfl (lv_at hl 0 rfl) ?_
    refine lv_iadd hx hb d_Bk_nextIsWhole_23 ?_
    refine lv_eqi (nI_add _ _) ?_
    refine lv_iconst (v := nI 1) hx hb d_Bk_nextIsWhole_24 (by decide) ?_
    refine lv_isub hx hb d_Bk_nextIsWhole_25 ?_
    refine lv_eqi (pk_sub (by omega)) ?_
    have hv1 := hv (re + szf (vc n g) re - 1)
    refine call_R (As := [.int (nI (re + szf (vc n g) re - 1))]) (rest := []) F hK (c_Bk_cell l D cy ad (re + szf (vc n g) re - 1) n er rc re g hn hg (by omega)) km_Bk_46 ki_Bk_cell ks_Bk_cell k0_Bk kc_Bk_cell kd_Bk_cell ⟨Nat.le_of_ble_eq_true rfl, Nat.le_of_ble_eq_true rfl⟩ (nw_recv hK.k hP (i := 0) (by decide) rfl rfl) (hP) (hI) hl.1 rfl (Nat.le_of_ble_eq_true rfl) d_Bk_nextIsWhole_26 ⟨(Nat.le_of_ble_eq_true rfl), (Nat.le_of_ble_eq_true rfl)⟩ hS (fun H1 locs1 hN hS => ?_)
    have hP := hN _ _ _ hP
    generalize H1 = H at hP hS ⊢
    refine lv_bipush (v := nI 90) hx hb d_Bk_nextIsWhole_29 (by decide) ?_
    refine lv_icmp_ne (tgt := 38) hx hb d_Bk_nextIsWhole_31 (by decide) (fun c31 => ?_) (fun c31 => ?_)
    · have c31 := mt (nI_eq (by omega) (by omega)).mpr c31
      refine lv_iconst (v := nI 0) hx hb d_Bk_nextIsWhole_38 (by decide) ?_
      rw [show whole (vc n g) re = false by simp [whole]; intro; omega]
      exact end_R F hr hlk rfl hS d_Bk_nextIsWhole_39
    · have c31 := (nI_eq (by omega) (by omega)).mp c31
      refine lv_iconst (v := nI 1) hx hb d_Bk_nextIsWhole_34 (by decide) ?_
      refine lv_goto (tgt := 39) hx hb d_Bk_nextIsWhole_35 (by decide) ?_
      rw [show whole (vc n g) re = true by simp [whole]; omega]
      exact end_R F hr hlk rfl hS d_Bk_nextIsWhole_39

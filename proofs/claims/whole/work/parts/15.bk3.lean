/-! TornLog$Block.write: names 0, 1 the block and its cells; 2, 3 the part and its row; 4 the cut -/
abbrev lt5 : Nat → Prop := fun i => i < 5
abbrev g4 : Nat → Nat := fun i => i + 4
def wrC (cy : Nat → ClassId) (ad : Nat → Nat) (n : Nat) (g : Nat → Nat) (er rc re : Nat) (bn : Nat) (bg : Nat → Nat) (bk : Nat) (w : Bool) (cp cb : Nat) : Nat → va_E := fun i => if i = 0 then .inr (0, [.ref (ad 1), .int (nI er), .int (nI 0), .int (nI rc), .int (nI re)]) else if i = 1 then .inl (cy 0, n, .inl (fun j => sb_b (g j))) else if i = 2 then .inr (1, [.ref (ad 3), .int (nI bk)]) else if i = 3 then .inl (cy 0, bn, .inl (fun j => sb_b (bg j))) else .inr (2, [.int (bI w), .int (nI cp), .int (nI cb)])
section WR
variable {D : va_G} {A : Nat → Prop} {cy : Nat → ClassId} {ad : Nat → Nat} {n er rc re bn bk cp cb : Nat} {g bg : Nat → Nat} {w : Bool} {H H1 : Heap}
theorem wr_01 : ∀ i, lt2 i → lt5 (g01 i) ∧ wrC cy ad n g er rc re bn bg bk w cp cb (g01 i) = bkC cy (fun i => ad (g01 i)) n g er rc re i := by
  intro i hi
  rcases (show i = 0 ∨ i = 1 by have hi : i < 2 := hi; omega) with rfl | rfl <;> exact ⟨by decide, by simp [wrC, bkC]⟩
theorem wr_23 : ∀ i, lt2 i → lt5 (g23 i) ∧ wrC cy ad n g er rc re bn bg bk w cp cb (g23 i) = byC cy (fun i => ad (g23 i)) bn bg bk i := by
  intro i hi
  rcases (show i = 0 ∨ i = 1 by have hi : i < 2 := hi; omega) with rfl | rfl <;> exact ⟨by decide, by simp [wrC, byC]⟩
theorem wr_4 : ∀ i, lt1 i → lt5 (g4 i) ∧ wrC cy ad n g er rc re bn bg bk w cp cb (g4 i) = cuC w cp cb i := by
  intro i hi
  obtain rfl : i = 0 := by have hi : i < 1 := hi; omega
  exact ⟨by decide, by simp [wrC, cuC]⟩
theorem wr_p01 : ∀ i, lt2 i → lt5 (g01 i) := fun i hi => by have hi : i < 2 := hi; show i < 5; omega
theorem wr_p23 : ∀ i, lt2 i → lt5 (g23 i) := fun i hi => by have hi : i < 2 := hi; show i + 2 < 5; omega
theorem wr_p4 : ∀ i, lt1 i → lt5 (g4 i) := fun i hi => by have hi : i < 1 := hi; show i + 4 < 5; omega
theorem wr_j01 {g' : Nat → Nat} {er' rc' re' : Nat} (h : nw D vcl lt5 ad (wrC cy ad n g er rc re bn bg bk w cp cb) H) (hd : nd A lt5 ad) (hk : ∀ q : Nat, q < H.size → ¬ na lt2 (fun i => ad (g01 i)) H.size q → H1[q]? = H[q]?) (h1 : nw D vcl lt2 (fun i => ad (g01 i)) (bkC cy (fun i => ad (g01 i)) n g' er' rc' re') H1) : nw D vcl lt5 ad (wrC cy ad n g' er' rc' re' bn bg bk w cp cb) H1 := by
  refine nw_join h hd g01 wr_p01 hk h1 (fun i hi => (wr_01 i hi).2) (fun j hj hn => ?_)
  have h0 : j ≠ 0 := hn 0 (by decide)
  have h1 : j ≠ 1 := hn 1 (by decide)
  simp [wrC, h0, h1]
theorem wr_j4 {w' : Bool} {cp' cb' : Nat} (h : nw D vcl lt5 ad (wrC cy ad n g er rc re bn bg bk w cp cb) H) (hd : nd A lt5 ad) (hk : ∀ q : Nat, q < H.size → ¬ na lt1 (fun i => ad (g4 i)) H.size q → H1[q]? = H[q]?) (h1 : nw D vcl lt1 (fun i => ad (g4 i)) (cuC w' cp' cb') H1) : nw D vcl lt5 ad (wrC cy ad n g er rc re bn bg bk w' cp' cb') H1 := by
  refine nw_join h hd g4 wr_p4 hk h1 (fun i hi => (wr_4 i hi).2) (fun j hj hn => ?_)
  have h0 : j ≠ 4 := hn 0 (by decide)
  have h2 : j < 5 := hj
  rcases (show j = 0 ∨ j = 1 ∨ j = 2 ∨ j = 3 by omega) with rfl | rfl | rfl | rfl <;> rfl
theorem wr_i23 (hd : nd A lt5 ad) : ∀ i j, lt2 i → lt2 j → ad (g23 i) = ad (g23 j) → i = j := nd_sub hd g23 wr_p23 (fun i j _ _ h => by have h : i + 2 = j + 2 := h; omega)
theorem wr_i01 (hd : nd A lt5 ad) : ∀ i j, lt2 i → lt2 j → ad (g01 i) = ad (g01 j) → i = j := nd_sub hd g01 wr_p01 (fun i j _ _ h => h)
theorem wr_i4 (hd : nd A lt5 ad) : ∀ i j, lt1 i → lt1 j → ad (g4 i) = ad (g4 j) → i = j := nd_sub hd g4 wr_p4 (fun i j _ _ h => by have h : i + 4 = j + 4 := h; omega)
end WR
set_option maxRecDepth 100000 in
set_option maxHeartbeats 4000000 in
theorem c_Bk_write (l : Launch) (D : va_G) (cy : Nat → ClassId) (ad : Nat → Nat) (a : Nat) (n er rc re : Nat) (g : Nat → Nat) (hn : n < 2 ^ 16) (hg : ∀ j, j < n → g j < 256) (bn bk cp cb : Nat) (bg : Nat → Nat) (w : Bool) (hbn : bn < 2 ^ 31) (hbk : bk ≤ bn) (hb0 : 0 < bk) (hbg : ∀ j, j < bk → bg j < 256) (hcp : cp < 2 ^ 31) (hcb : cb < 2 ^ 31) (ha : a + bk ≤ n) (h255 : ∀ j, j < bk → g (a + j) = 255) : mtI l y_Bk_write b_Bk_write 6 (some .boolean) { frames := 2, cells := 0, slots := 0, locals := 49 } D cy [.ref (ad 0), .int (nI a), .ref (ad 2), .ref (ad 4)] lt5 ad (wrC cy ad n g er rc re bn bg bk w cp cb) (wrC cy ad n (upN g a bg (cutN w cp cb bk)) er rc re bn bg bk (cutW w cp) (cutP w cp) cb) (bI (decide (cutN w cp cb bk = bk))) := by
  intro sz
  refine nm_ofW (cc := b_Bk_write) (maxL := 6) (ret := (some .boolean)) (own := R_Bk) (by decide) (Nat.le_of_ble_eq_true rfl) rfl ?_
  intro p e s m below meth c ls F hr hlk hnm hv hl
  obtain ⟨hx, hb, hml, hown, hts⟩ := id F
  obtain ⟨rfl, hP, hK, hI⟩ := hv
  have hD : nd (na lt5 ad s.heap.size) lt5 ad := nd_self hI
  have hA : ∀ q, s.heap.size ≤ q → na lt5 ad s.heap.size q := fun q h => Or.inr h
  have hS : va_S (na lt5 ad s.heap.size) s.heap s.heap [] := va_S.rf
  have hl : lv_has ls 6 [(0, .ref (ad 0)), (1, .int (nI a)), (2, .ref (ad 2)), (3, .ref (ad 4))] := hl
  have hdn : cutN w cp cb bk ≤ bk := by unfold cutN; split <;> omega
  refine lv_aload_n hx hb d_Bk_write_0 rfl (lv_at hl 3 rfl) ?_
  refine lv_aload_n hx hb d_Bk_write_1 rfl (lv_at hl 2 rfl) ?_
  refine nw_getN (D := D) (ci := 1) (C := R_By) (T := T_By) (N := 2) hx hb hts in_By hown hK.k hP (i := 2) (by decide) rfl rfl 1 (by decide) (hK.nest 1 (by decide) rfl) rfl d_Bk_write_2 ?_
  refine call_I (As := [.int (nI bk)]) (rest := []) F hK (c_Cu_bytesDone l D cy (fun i => ad (g4 i)) w cp cb bk hb0 (by omega) hcb hcp) km_Bk_28 ki_Cu_bytesDone ks_Cu_bytesDone k0_Cu kc_Cu_bytesDone kd_Cu_bytesDone ⟨Nat.le_of_ble_eq_true rfl, Nat.le_of_ble_eq_true rfl⟩ (nw_recv hK.k hP (i := 4) (by decide) rfl rfl) (nw_sub hP g4 wr_4) (wr_i4 hD) hl.1 rfl (Nat.le_of_ble_eq_true rfl) d_Bk_write_5 ⟨(Nat.le_of_ble_eq_true rfl), (Nat.le_of_ble_eq_true rfl)⟩ hS (na_sub hD hS hA g4 wr_p4) (fun H1 locs1 hP1 hk1 hS => ?_)
  have hP : nw D vcl lt5 ad (wrC cy ad n g er rc re bn bg bk (cutW w cp) (cutP w cp) cb) H1 := wr_j4 hP hD hk1 hP1
  generalize H1 = H at hP hS ⊢
  refine lv_istore (lv' := [(4, .int (nI (cutN w cp cb bk))), (0, .ref (ad 0)), (1, .int (nI a)), (2, .ref (ad 2)), (3, .ref (ad 4))]) hx hb d_Bk_write_8 hl (by decide) rfl (fun ls hl => ?_)
  refine lv_iconst (v := nI 0) hx hb d_Bk_write_10 (by decide) ?_
  refine lv_istore (lv' := [(5, .int (nI 0)), (4, .int (nI (cutN w cp cb bk))), (0, .ref (ad 0)), (1, .int (nI a)), (2, .ref (ad 2)), (3, .ref (ad 4))]) hx hb d_Bk_write_11 hl (by decide) rfl (fun ls hl => ?_)
  have loop : ∀ (j i : Nat), i + j = cutN w cp cb bk → ∀ (H : Heap) (locs : List Loc) (ls : Array Slot), nw D vcl lt5 ad (wrC cy ad n (upN g a bg i) er rc re bn bg bk (cutW w cp) (cutP w cp) cb) H → va_S (na lt5 ad s.heap.size) s.heap H locs → lv_has ls 6 [(5, .int (nI i)), (4, .int (nI (cutN w cp cb bk))), (0, .ref (ad 0)), (1, .int (nI a)), (2, .ref (ad 2)), (3, .ref (ad 4))] → W p l e { frames := 2, cells := 0, slots := 0, locals := 49 } s m [.ref (ad 0), .int (nI a), .ref (ad 2), .ref (ad 4)].toArray below meth c H locs 0 0 (MQ below (va_Qi (fun r' (_ : Unit) => r' = bI (decide (cutN w cp cb bk = bk))) (fun _ t => nw D vcl lt5 ad (wrC cy ad n (upN g a bg (cutN w cp cb bk)) er rc re bn bg bk (cutW w cp) (cutP w cp) cb) t.heap) (na lt5 ad s.heap.size)) [.ref (ad 0), .int (nI a), .ref (ad 2), .ref (ad 4)].toArray s 0 0 (na lt5 ad s.heap.size)) (F0 m 13 ls []) := by
    intro j
    induction j with
    | zero =>
      intro i hi H locs ls hP hS hl
      have hi : i = cutN w cp cb bk := by omega
      subst hi
      refine lv_iload hx hb d_Bk_write_13 (lv_at hl 0 rfl) ?_
      refine lv_iload hx hb d_Bk_write_15 (lv_at hl 1 rfl) ?_
      refine lv_icmp_ge (tgt := 40) hx hb d_Bk_write_17 (by decide) (fun c17 => ?_) (fun c17 => absurd ((nI_leI (by omega) (by omega)).mpr (by omega)) c17)
      refine lv_iload hx hb d_Bk_write_40 (lv_at hl 1 rfl) ?_
      refine lv_aload_n hx hb d_Bk_write_42 rfl (lv_at hl 4 rfl) ?_
      refine nw_getN (D := D) (ci := 1) (C := R_By) (T := T_By) (N := 2) hx hb hts in_By hown hK.k hP (i := 2) (by decide) rfl rfl 1 (by decide) (hK.nest 1 (by decide) rfl) rfl d_Bk_write_43 ?_
      refine lv_icmp_ne (tgt := 53) hx hb d_Bk_write_46 (by decide) (fun c46 => ?_) (fun c46 => ?_)
      · have c46 := mt (nI_eq (by omega) (by omega)).mpr c46
        refine lv_iconst (v := nI 0) hx hb d_Bk_write_53 (by decide) ?_
        rw [show decide (cutN w cp cb bk = bk) = false from decide_eq_false c46]
        exact end_I F hr hlk rfl hP hS d_Bk_write_54
      · have c46 := (nI_eq (by omega) (by omega)).mp c46
        refine lv_iconst (v := nI 1) hx hb d_Bk_write_49 (by decide) ?_
        refine lv_goto (tgt := 54) hx hb d_Bk_write_50 (by decide) ?_
        rw [show decide (cutN w cp cb bk = bk) = true from decide_eq_true c46]
        exact end_I F hr hlk rfl hP hS d_Bk_write_54
    | succ j ih =>
      intro i hi H locs ls hP hS hl
      refine lv_iload hx hb d_Bk_write_13 (lv_at hl 0 rfl) ?_
      refine lv_iload hx hb d_Bk_write_15 (lv_at hl 1 rfl) ?_
      refine lv_icmp_ge (tgt := 40) hx hb d_Bk_write_17 (by decide) (fun c17 => absurd c17 (fun z => absurd ((nI_leI (by omega) (by omega)).mp z) (by omega))) (fun c17 => ?_)
      refine lv_aload_n hx hb d_Bk_write_20 rfl (lv_at hl 2 rfl) ?_
      refine lv_iload_n hx hb d_Bk_write_21 rfl (lv_at hl 3 rfl) ?_
      refine lv_iload hx hb d_Bk_write_22 (lv_at hl 0 rfl) ?_
      refine lv_iadd hx hb d_Bk_write_24 ?_
      refine lv_eqi (nI_add _ _) ?_
      refine lv_aload_n hx hb d_Bk_write_25 rfl (lv_at hl 4 rfl) ?_
      refine lv_iload hx hb d_Bk_write_26 (lv_at hl 0 rfl) ?_
      refine call_R (As := [.int (nI i)]) (rest := [.int (nI (a + i)), .ref (ad 0)]) F hK (c_By_get l D cy (fun i => ad (g23 i)) bn bk i bg hbn hbk (by omega) (hbg i (by omega))) km_Bk_39 ki_By_get ks_By_get k0_By kc_By_get kd_By_get ⟨Nat.le_of_ble_eq_true rfl, Nat.le_of_ble_eq_true rfl⟩ (nw_recv hK.k hP (i := 2) (by decide) rfl rfl) (nw_sub hP g23 wr_23) (wr_i23 hD) hl.1 rfl (Nat.le_of_ble_eq_true rfl) d_Bk_write_28 ⟨(Nat.le_of_ble_eq_true rfl), (Nat.le_of_ble_eq_true rfl)⟩ hS (fun H1 locs1 hN hS => ?_)
      have hP := hN _ _ _ hP
      generalize H1 = H at hP hS ⊢
      refine call_V (As := [.int (nI (a + i)), .int (nI (bg i))]) (rest := []) F hK (c_Bk_writeCell l D cy (fun i => ad (g01 i)) (a + i) (bg i) n er rc re (upN g a bg i) hn (upN_256 hg (fun j hj => hbg j (by omega))) (by omega) (by rw [upN_ge (Nat.le_refl _)]; exact h255 i (by omega)) (hbg i (by omega))) km_Bk_42 ki_Bk_writeCell ks_Bk_writeCell k0_Bk kc_Bk_writeCell kd_Bk_writeCell ⟨Nat.le_of_ble_eq_true rfl, Nat.le_of_ble_eq_true rfl⟩ (nw_recv hK.k hP (i := 0) (by decide) rfl rfl) (nw_sub hP g01 wr_01) (wr_i01 hD) hl.1 rfl (Nat.le_of_ble_eq_true rfl) d_Bk_write_31 ⟨(Nat.le_of_ble_eq_true rfl), (Nat.le_of_ble_eq_true rfl)⟩ hS (na_sub hD hS hA g01 wr_p01) (fun H1 locs1 hP1 hk1 hS => ?_)
      have hP : nw D vcl lt5 ad (wrC cy ad n (upN g a bg (i + 1)) er rc re bn bg bk (cutW w cp) (cutP w cp) cb) H1 := wr_j01 hP hD hk1 hP1
      generalize H1 = H at hP hS ⊢
      refine lv_iinc (v := nI (i + 1)) (lv' := [(5, .int (nI (i + 1))), (4, .int (nI (cutN w cp cb bk))), (0, .ref (ad 0)), (1, .int (nI a)), (2, .ref (ad 2)), (3, .ref (ad 4))]) hx hb d_Bk_write_34 hl (k := 0) rfl (nI_inc _) (by decide) rfl (fun ls hl => ?_)
      refine lv_goto (tgt := 13) hx hb d_Bk_write_37 (by decide) ?_
      exact ih (i + 1) (by omega) _ _ _ hP hS (lv_sub hl [0, 1, 2, 3, 4, 5] rfl)
  exact loop (cutN w cp cb bk) 0 (by omega) _ _ _ hP hS (lv_sub hl [0, 1, 2, 3, 4, 5] rfl)

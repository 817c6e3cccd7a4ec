/-! TornLog$Bytes: names 0 the object, 1 its row; n the limit, k the length, g the bytes -/
def byC (cy : Nat → ClassId) (ad : Nat → Nat) (n : Nat) (g : Nat → Nat) (k : Nat) : Nat → va_E := fun i => if i = 0 then .inr (1, [.ref (ad 1), .int (nI k)]) else .inl (cy 0, n, .inl (fun j => sb_b (g j)))
abbrev lt2 : Nat → Prop := fun i => i < 2
theorem byC_row {cy : Nat → ClassId} {ad : Nat → Nat} {n k : Nat} {g g' : Nat → Nat} : ∀ i, lt2 i → va_up (byC cy ad n g k) 1 (.inl (cy 0, n, .inl (fun j => sb_b (g' j)))) i = byC cy ad n g' k i := by
  intro i hi
  rcases (show i = 0 ∨ i = 1 by have hi : i < 2 := hi; omega) with rfl | rfl <;> simp [va_up, byC]
theorem byC_len {cy : Nat → ClassId} {ad : Nat → Nat} {n k k' : Nat} {g : Nat → Nat} : ∀ i, lt2 i → va_up (byC cy ad n g k) 0 (.inr (1, [Value.ref (ad 1), Value.int (nI k)].set 1 (Value.int (nI k')))) i = byC cy ad n g k' i := by
  intro i hi
  rcases (show i = 0 ∨ i = 1 by have hi : i < 2 := hi; omega) with rfl | rfl <;> simp [va_up, byC]
set_option maxRecDepth 100000 in
set_option maxHeartbeats 4000000 in
theorem c_By_get (l : Launch) (D : va_G) (cy : Nat → ClassId) (ad : Nat → Nat) (n k i : Nat) (g : Nat → Nat) (hn : n < 2 ^ 31) (hk : k ≤ n) (hi : i < k) (hg : g i < 256) : mtR l y_By_get b_By_get 2 (some .int) { frames := 0, cells := 0, slots := 0, locals := 0 } D cy [.ref (ad 0), .int (nI i)] lt2 ad (byC cy ad n g k) (nI (g i)) := by
  intro sz
  refine nm_ofW (cc := b_By_get) (maxL := 2) (ret := (some .int)) (own := R_By) (by decide) (Nat.le_of_ble_eq_true rfl) rfl ?_
  intro p e s m below meth c ls F hr hlk hnm hv hl
  obtain ⟨hx, hb, hml, hown, hts⟩ := id F
  obtain ⟨rfl, hP, hK, hI⟩ := hv
  have hS : va_S (fun _ => False) s.heap s.heap [] := va_S.rf
  have hl : lv_has ls 2 [(0, .ref (ad 0)), (1, .int (nI i))] := hl
  refine lv_iload_n hx hb d_By_get_0 rfl (lv_at hl 1 rfl) ?_
  refine lv_if_lt (tgt := 25) hx hb d_By_get_1 (by decide) (fun c1 => absurd c1 (nI_pos (by omega))) (fun c1 => ?_)
  refine lv_iload_n hx hb d_By_get_4 rfl (lv_at hl 1 rfl) ?_
  refine lv_aload_n hx hb d_By_get_5 rfl (lv_at hl 0 rfl) ?_
  refine nw_get (D := D) (ci := 1) (C := R_By) (T := T_By) (N := 2) hx hb hts in_By hown hK.k hP (i := 0) (by decide) rfl rfl 1 (by decide) (hts _ kf_By_15) rfl d_By_get_6 ?_
  refine lv_icmp_ge (tgt := 25) hx hb d_By_get_9 (by decide) (fun c9 => absurd c9 (fun z => absurd ((nI_leI (by omega) (by omega)).mp z) (by omega))) (fun c9 => ?_)
  refine lv_aload_n hx hb d_By_get_12 rfl (lv_at hl 0 rfl) ?_
  refine nw_get (D := D) (ci := 1) (C := R_By) (T := T_By) (N := 2) hx hb hts in_By hown hK.k hP (i := 0) (by decide) rfl rfl 0 (by decide) (hts _ kf_By_9) rfl d_By_get_13 ?_
  refine lv_iload_n hx hb d_By_get_16 rfl (lv_at hl 1 rfl) ?_
  refine nw_bald hx hb hK.k hP (i := 1) (by decide) rfl 0 rfl (vp_in_nI (by omega) (by omega)) d_By_get_17 ?_
  refine lv_eqi (y := sb_b (g i)) (by rw [nI_clamp (by omega)]) ?_
  refine lv_sipush (v := nI 255) hx hb d_By_get_18 (by decide) ?_
  refine lv_iand hx hb d_By_get_21 ?_
  refine lv_eqi (sb_and hg) ?_
  refine lv_goto (tgt := 26) hx hb d_By_get_22 (by decide) ?_
  exact end_R F hr hlk rfl hS d_By_get_26
set_option maxRecDepth 100000 in
set_option maxHeartbeats 4000000 in
theorem c_By_add (l : Launch) (D : va_G) (cy : Nat → ClassId) (ad : Nat → Nat) (n k : Nat) (g : Nat → Nat) (v : Int32) (hn : n < 2 ^ 31) (hk : k < n) : mtV l y_By_add b_By_add 2 { frames := 0, cells := 0, slots := 0, locals := 0 } D cy [.ref (ad 0), .int v] lt2 ad (byC cy ad n g k) (byC cy ad n (va_up g k (bof v)) (k + 1)) := by
  intro sz
  refine nm_ofW (cc := b_By_add) (maxL := 2) (ret := none) (own := R_By) (by decide) (Nat.le_of_ble_eq_true rfl) rfl ?_
  intro p e s m below meth c ls F hr hlk hnm hv hl
  obtain ⟨hx, hb, hml, hown, hts⟩ := id F
  obtain ⟨rfl, hP, hK, hI⟩ := hv
  have hD : nd (na lt2 ad s.heap.size) lt2 ad := nd_self hI
  have hA : ∀ q, s.heap.size ≤ q → na lt2 ad s.heap.size q := fun q h => Or.inr h
  have hS : va_S (na lt2 ad s.heap.size) s.heap s.heap [] := va_S.rf
  have hl : lv_has ls 2 [(0, .ref (ad 0)), (1, .int (v))] := hl
  refine lv_aload_n hx hb d_By_add_0 rfl (lv_at hl 0 rfl) ?_
  refine nw_get (D := D) (ci := 1) (C := R_By) (T := T_By) (N := 2) hx hb hts in_By hown hK.k hP (i := 0) (by decide) rfl rfl 1 (by decide) (hts _ kf_By_15) rfl d_By_add_1 ?_
  refine lv_aload_n hx hb d_By_add_4 rfl (lv_at hl 0 rfl) ?_
  refine nw_get (D := D) (ci := 1) (C := R_By) (T := T_By) (N := 2) hx hb hts in_By hown hK.k hP (i := 0) (by decide) rfl rfl 0 (by decide) (hts _ kf_By_9) rfl d_By_add_5 ?_
  refine nw_alen hx hb hK.k hP (i := 1) (by decide) rfl 0 rfl (v := nI n) rfl d_By_add_8 ?_
  refine lv_icmp_ge (tgt := 33) hx hb d_By_add_9 (by decide) (fun c9 => absurd c9 (fun z => absurd ((nI_leI (by omega) (by omega)).mp z) (by omega))) (fun c9 => ?_)
  refine lv_aload_n hx hb d_By_add_12 rfl (lv_at hl 0 rfl) ?_
  refine nw_get (D := D) (ci := 1) (C := R_By) (T := T_By) (N := 2) hx hb hts in_By hown hK.k hP (i := 0) (by decide) rfl rfl 0 (by decide) (hts _ kf_By_9) rfl d_By_add_13 ?_
  refine lv_aload_n hx hb d_By_add_16 rfl (lv_at hl 0 rfl) ?_
  refine nw_get (D := D) (ci := 1) (C := R_By) (T := T_By) (N := 2) hx hb hts in_By hown hK.k hP (i := 0) (by decide) rfl rfl 1 (by decide) (hts _ kf_By_15) rfl d_By_add_17 ?_
  refine lv_iload_n hx hb d_By_add_20 rfl (lv_at hl 1 rfl) ?_
  refine lv_i2b hx hb d_By_add_21 rfl ?_
  refine nw_bast hx hb hK.k hP hD hS (i := 1) (by decide) rfl 0 rfl (vp_in_nI (by omega) (by omega)) d_By_add_22 (fun H locs hP hS hz hq => ?_)
  rw [nI_clamp (by omega), sb_na, by_upd] at hP
  have hP : nw D vcl lt2 ad (byC cy ad n (va_up g k (bof v)) k) H := nw_congr hP (byC_row)
  refine lv_aload_n hx hb d_By_add_23 rfl (lv_at hl 0 rfl) ?_
  refine lv_dup hx hb d_By_add_24 rfl ?_
  refine nw_get (D := D) (ci := 1) (C := R_By) (T := T_By) (N := 2) hx hb hts in_By hown hK.k hP (i := 0) (by decide) rfl rfl 1 (by decide) (hts _ kf_By_15) rfl d_By_add_25 ?_
  refine lv_iconst (v := nI 1) hx hb d_By_add_28 (by decide) ?_
  refine lv_iadd hx hb d_By_add_29 ?_
  refine lv_eqi (nI_add _ _) ?_
  refine nw_put (D := D) (ci := 1) (C := R_By) (T := T_By) (N := 2) hx hb hts in_By ty_By tk_By nm_By hown hK.k hP hD hS (i := 0) (by decide) rfl rfl 1 (by decide) (hts _ kf_By_15) rfl rfl rfl (Nat.le_of_ble_eq_true rfl) d_By_add_30 (fun H locs hP hS hz hq => ?_)
  have hP : nw D vcl lt2 ad (byC cy ad n (va_up g k (bof v)) (k + 1)) H := nw_congr hP (byC_len)
  exact end_V F hr hlk hP hS d_By_add_33
def up4 (g : Nat → Nat) (k : Nat) (v : Int32) : Nat → Nat := va_up (va_up (va_up (va_up g k (nb v 3)) (k + 1) (nb v 2)) (k + 2) (nb v 1)) (k + 3) (nb v 0)
set_option maxRecDepth 100000 in
set_option maxHeartbeats 4000000 in
theorem c_By_addInt (l : Launch) (D : va_G) (cy : Nat → ClassId) (ad : Nat → Nat) (n k : Nat) (g : Nat → Nat) (v : Int32) (hn : n < 2 ^ 31) (hk : k + 4 ≤ n) : mtV l y_By_addInt b_By_addInt 2 { frames := 1, cells := 0, slots := 0, locals := 21 } D cy [.ref (ad 0), .int v] lt2 ad (byC cy ad n g k) (byC cy ad n (up4 g k v) (k + 4)) := by
  intro sz
  refine nm_ofW (cc := b_By_addInt) (maxL := 2) (ret := none) (own := R_By) (by decide) (Nat.le_of_ble_eq_true rfl) rfl ?_
  intro p e s m below meth c ls F hr hlk hnm hv hl
  obtain ⟨hx, hb, hml, hown, hts⟩ := id F
  obtain ⟨rfl, hP, hK, hI⟩ := hv
  have hD : nd (na lt2 ad s.heap.size) lt2 ad := nd_self hI
  have hA : ∀ q, s.heap.size ≤ q → na lt2 ad s.heap.size q := fun q h => Or.inr h
  have hS : va_S (na lt2 ad s.heap.size) s.heap s.heap [] := va_S.rf
  have hl : lv_has ls 2 [(0, .ref (ad 0)), (1, .int (v))] := hl
  refine lv_aload_n hx hb d_By_addInt_0 rfl (lv_at hl 0 rfl) ?_
  refine lv_iload_n hx hb d_By_addInt_1 rfl (lv_at hl 1 rfl) ?_
  refine lv_bipush (v := nI 24) hx hb d_By_addInt_2 (by decide) ?_
  refine lv_ishr hx hb d_By_addInt_4 ?_
  refine call_V (As := [.int ((v) >>> ((nI 24) &&& 31))]) (rest := []) F hK (by have z := c_By_add l D cy ad n (k) (g) ((v) >>> ((nI 24) &&& 31)) hn (by omega); rw [bof_24] at z; exact z) km_By_19 ki_By_add ks_By_add k0_By kc_By_add kd_By_add ⟨Nat.le_of_ble_eq_true rfl, Nat.le_of_ble_eq_true rfl⟩ (nw_recv hK.k hP (i := 0) (by decide) rfl rfl) (hP) (hI) hl.1 rfl (Nat.le_of_ble_eq_true rfl) d_By_addInt_5 ⟨(Nat.le_of_ble_eq_true rfl), (Nat.le_of_ble_eq_true rfl)⟩ hS (na_le hS) (fun H1 locs1 hP1 hk1 hS => ?_)
  have hP : nw D vcl lt2 ad (byC cy ad n (va_up (g) (k) (nb v 3)) (k + 1)) H1 := hP1
  generalize H1 = H at hP hS ⊢
  refine lv_aload_n hx hb d_By_addInt_8 rfl (lv_at hl 0 rfl) ?_
  refine lv_iload_n hx hb d_By_addInt_9 rfl (lv_at hl 1 rfl) ?_
  refine lv_bipush (v := nI 16) hx hb d_By_addInt_10 (by decide) ?_
  refine lv_ishr hx hb d_By_addInt_12 ?_
  refine call_V (As := [.int ((v) >>> ((nI 16) &&& 31))]) (rest := []) F hK (by have z := c_By_add l D cy ad n (k + 1) (va_up (g) (k) (nb v 3)) ((v) >>> ((nI 16) &&& 31)) hn (by omega); rw [bof_16] at z; exact z) km_By_19 ki_By_add ks_By_add k0_By kc_By_add kd_By_add ⟨Nat.le_of_ble_eq_true rfl, Nat.le_of_ble_eq_true rfl⟩ (nw_recv hK.k hP (i := 0) (by decide) rfl rfl) (hP) (hI) hl.1 rfl (Nat.le_of_ble_eq_true rfl) d_By_addInt_13 ⟨(Nat.le_of_ble_eq_true rfl), (Nat.le_of_ble_eq_true rfl)⟩ hS (na_le hS) (fun H1 locs1 hP1 hk1 hS => ?_)
  have hP : nw D vcl lt2 ad (byC cy ad n (va_up (va_up (g) (k) (nb v 3)) (k + 1) (nb v 2)) (k + 2)) H1 := hP1
  generalize H1 = H at hP hS ⊢
  refine lv_aload_n hx hb d_By_addInt_16 rfl (lv_at hl 0 rfl) ?_
  refine lv_iload_n hx hb d_By_addInt_17 rfl (lv_at hl 1 rfl) ?_
  refine lv_bipush (v := nI 8) hx hb d_By_addInt_18 (by decide) ?_
  refine lv_ishr hx hb d_By_addInt_20 ?_
  refine call_V (As := [.int ((v) >>> ((nI 8) &&& 31))]) (rest := []) F hK (by have z := c_By_add l D cy ad n (k + 2) (va_up (va_up (g) (k) (nb v 3)) (k + 1) (nb v 2)) ((v) >>> ((nI 8) &&& 31)) hn (by omega); rw [bof_8] at z; exact z) km_By_19 ki_By_add ks_By_add k0_By kc_By_add kd_By_add ⟨Nat.le_of_ble_eq_true rfl, Nat.le_of_ble_eq_true rfl⟩ (nw_recv hK.k hP (i := 0) (by decide) rfl rfl) (hP) (hI) hl.1 rfl (Nat.le_of_ble_eq_true rfl) d_By_addInt_21 ⟨(Nat.le_of_ble_eq_true rfl), (Nat.le_of_ble_eq_true rfl)⟩ hS (na_le hS) (fun H1 locs1 hP1 hk1 hS => ?_)
  have hP : nw D vcl lt2 ad (byC cy ad n (va_up (va_up (va_up (g) (k) (nb v 3)) (k + 1) (nb v 2)) (k + 2) (nb v 1)) (k + 3)) H1 := hP1
  generalize H1 = H at hP hS ⊢
  refine lv_aload_n hx hb d_By_addInt_24 rfl (lv_at hl 0 rfl) ?_
  refine lv_iload_n hx hb d_By_addInt_25 rfl (lv_at hl 1 rfl) ?_
  refine call_V (As := [.int (v)]) (rest := []) F hK (by have z := c_By_add l D cy ad n (k + 3) (va_up (va_up (va_up (g) (k) (nb v 3)) (k + 1) (nb v 2)) (k + 2) (nb v 1)) (v) hn (by omega); rw [bof_0] at z; exact z) km_By_19 ki_By_add ks_By_add k0_By kc_By_add kd_By_add ⟨Nat.le_of_ble_eq_true rfl, Nat.le_of_ble_eq_true rfl⟩ (nw_recv hK.k hP (i := 0) (by decide) rfl rfl) (hP) (hI) hl.1 rfl (Nat.le_of_ble_eq_true rfl) d_By_addInt_26 ⟨(Nat.le_of_ble_eq_true rfl), (Nat.le_of_ble_eq_true rfl)⟩ hS (na_le hS) (fun H1 locs1 hP1 hk1 hS => ?_)
  have hP : nw D vcl lt2 ad (byC cy ad n (va_up (va_up (va_up (va_up (g) (k) (nb v 3)) (k + 1) (nb v 2)) (k + 2) (nb v 1)) (k + 3) (nb v 0)) (k + 4)) H1 := hP1
  generalize H1 = H at hP hS ⊢
  exact end_V F hr hlk hP hS d_By_addInt_29
/-- two of them: 0, 1 and 2, 3 -/
def by2C (cy : Nat → ClassId) (ad : Nat → Nat) (n : Nat) (g : Nat → Nat) (k : Nat) (n' : Nat) (g' : Nat → Nat) (k' : Nat) : Nat → va_E := fun i => if i = 0 then .inr (1, [.ref (ad 1), .int (nI k)]) else if i = 1 then .inl (cy 0, n, .inl (fun j => sb_b (g j))) else if i = 2 then .inr (1, [.ref (ad 3), .int (nI k')]) else .inl (cy 0, n', .inl (fun j => sb_b (g' j)))
abbrev lt4 : Nat → Prop := fun i => i < 4
abbrev g01 : Nat → Nat := fun i => i
abbrev g23 : Nat → Nat := fun i => i + 2
theorem by2_01 {cy : Nat → ClassId} {ad : Nat → Nat} {n k n' k' : Nat} {g g' : Nat → Nat} : ∀ i, lt2 i → lt4 (g01 i) ∧ by2C cy ad n g k n' g' k' (g01 i) = byC cy (fun i => ad (g01 i)) n g k i := by
  intro i hi
  rcases (show i = 0 ∨ i = 1 by have hi : i < 2 := hi; omega) with rfl | rfl <;> exact ⟨by decide, by simp [by2C, byC]⟩
theorem by2_23 {cy : Nat → ClassId} {ad : Nat → Nat} {n k n' k' : Nat} {g g' : Nat → Nat} : ∀ i, lt2 i → lt4 (g23 i) ∧ by2C cy ad n g k n' g' k' (g23 i) = byC cy (fun i => ad (g23 i)) n' g' k' i := by
  intro i hi
  rcases (show i = 0 ∨ i = 1 by have hi : i < 2 := hi; omega) with rfl | rfl <;> exact ⟨by decide, by simp [by2C, byC]⟩
theorem by2_j {D : va_G} {A : Nat → Prop} {cy : Nat → ClassId} {ad : Nat → Nat} {n k n' k' k1 : Nat} {g g' g1 : Nat → Nat} {H H1 : Heap} (h : nw D vcl lt4 ad (by2C cy ad n g k n' g' k') H) (hd : nd A lt4 ad) (hk : ∀ q : Nat, q < H.size → ¬ na lt2 (fun i => ad (g01 i)) H.size q → H1[q]? = H[q]?) (h1 : nw D vcl lt2 (fun i => ad (g01 i)) (byC cy (fun i => ad (g01 i)) n g1 k1) H1) : nw D vcl lt4 ad (by2C cy ad n g1 k1 n' g' k') H1 := by
  refine nw_join h hd g01 (fun i hi => (by2_01 (cy := cy) (ad := ad) (n := n) (k := k) (n' := n') (k' := k') (g := g) (g' := g') i hi).1) hk h1 (fun i hi => (by2_01 i hi).2) (fun j hj hn => ?_)
  have h0 : j ≠ 0 := hn 0 (by decide)
  have h1 : j ≠ 1 := hn 1 (by decide)
  simp [by2C, h0, h1]
/-- the bytes b at g, j of them, behind k -/
def upN (g : Nat → Nat) (k : Nat) (b : Nat → Nat) : Nat → (Nat → Nat)
  | 0 => g
  | j + 1 => va_up (upN g k b j) (k + j) (b j)
set_option maxRecDepth 100000 in
set_option maxHeartbeats 4000000 in
theorem c_By_addAll (l : Launch) (D : va_G) (cy : Nat → ClassId) (ad : Nat → Nat) (n k n' k' : Nat) (g g' : Nat → Nat) (hn : n < 2 ^ 31) (hk : k + k' ≤ n) (hn' : n' < 2 ^ 31) (hk' : k' ≤ n') (hg' : ∀ i, i < k' → g' i < 256) : mtV l y_By_addAll b_By_addAll 3 { frames := 1, cells := 0, slots := 0, locals := 21 } D cy [.ref (ad 0), .ref (ad 2)] lt4 ad (by2C cy ad n g k n' g' k') (by2C cy ad n (upN g k g' k') (k + k') n' g' k') := by
  intro sz
  refine nm_ofW (cc := b_By_addAll) (maxL := 3) (ret := none) (own := R_By) (by decide) (Nat.le_of_ble_eq_true rfl) rfl ?_
  intro p e s m below meth c ls F hr hlk hnm hv hl
  obtain ⟨hx, hb, hml, hown, hts⟩ := id F
  obtain ⟨rfl, hP, hK, hI⟩ := hv
  have hD : nd (na lt4 ad s.heap.size) lt4 ad := nd_self hI
  have hA : ∀ q, s.heap.size ≤ q → na lt4 ad s.heap.size q := fun q h => Or.inr h
  have hS : va_S (na lt4 ad s.heap.size) s.heap s.heap [] := va_S.rf
  have hl : lv_has ls 3 [(0, .ref (ad 0)), (1, .ref (ad 2))] := hl
  refine lv_iconst (v := nI 0) hx hb d_By_addAll_0 (by decide) ?_
  refine lv_istore_n (lv' := [(2, .int (nI 0)), (0, .ref (ad 0)), (1, .ref (ad 2))]) hx hb d_By_addAll_1 rfl hl (by decide) rfl (fun ls hl => ?_)
  have loop : ∀ (j i : Nat), i + j = k' → ∀ (H : Heap) (locs : List Loc) (ls : Array Slot), nw D vcl lt4 ad (by2C cy ad n (upN g k g' i) (k + i) n' g' k') H → va_S (na lt4 ad s.heap.size) s.heap H locs → lv_has ls 3 [(2, .int (nI i)), (0, .ref (ad 0)), (1, .ref (ad 2))] → W p l e { frames := 1, cells := 0, slots := 0, locals := 21 } s m [Value.ref (ad 0), Value.ref (ad 2)].toArray below meth c H locs 0 0 (MQ below (va_Qv (fun _ : Unit => True) (fun _ t => nw D vcl lt4 ad (by2C cy ad n (upN g k g' k') (k + k') n' g' k') t.heap) (na lt4 ad s.heap.size)) [Value.ref (ad 0), Value.ref (ad 2)].toArray s 0 0 (na lt4 ad s.heap.size)) (F0 m 2 ls []) := by
    intro j
    induction j with
    | zero =>
      intro i hi H locs ls hP hS hl
      obtain rfl : i = k' := by omega
      refine lv_iload_n hx hb d_By_addAll_2 rfl (lv_at hl 0 rfl) ?_
      refine lv_aload_n hx hb d_By_addAll_3 rfl (lv_at hl 2 rfl) ?_
      refine nw_get (D := D) (ci := 1) (C := R_By) (T := T_By) (N := 2) hx hb hts in_By hown hK.k hP (i := 2) (by decide) rfl rfl 1 (by decide) (hts _ kf_By_15) rfl d_By_addAll_4 ?_
      refine lv_icmp_ge (tgt := 25) hx hb d_By_addAll_7 (by decide) (fun c7 => ?_) (fun c7 => absurd ((nI_leI (by omega) (by omega)).mpr (by omega)) c7)
      exact end_V F hr hlk hP hS d_By_addAll_25
    | succ j ih =>
      intro i hi H locs ls hP hS hl
      refine lv_iload_n hx hb d_By_addAll_2 rfl (lv_at hl 0 rfl) ?_
      refine lv_aload_n hx hb d_By_addAll_3 rfl (lv_at hl 2 rfl) ?_
      refine nw_get (D := D) (ci := 1) (C := R_By) (T := T_By) (N := 2) hx hb hts in_By hown hK.k hP (i := 2) (by decide) rfl rfl 1 (by decide) (hts _ kf_By_15) rfl d_By_addAll_4 ?_
      refine lv_icmp_ge (tgt := 25) hx hb d_By_addAll_7 (by decide) (fun c7 => absurd c7 (fun z => absurd ((nI_leI (by omega) (by omega)).mp z) (by omega))) (fun c7 => ?_)
      refine lv_aload_n hx hb d_By_addAll_10 rfl (lv_at hl 1 rfl) ?_
      refine lv_aload_n hx hb d_By_addAll_11 rfl (lv_at hl 2 rfl) ?_
      refine lv_iload_n hx hb d_By_addAll_12 rfl (lv_at hl 0 rfl) ?_
      refine call_R (As := [.int (nI i)]) (rest := [.ref (ad 0)]) F hK (c_By_get l D cy (fun i => ad (g23 i)) n' k' i g' hn' hk' (by omega) (hg' i (by omega))) km_By_23 ki_By_get ks_By_get k0_By kc_By_get kd_By_get ⟨Nat.le_of_ble_eq_true rfl, Nat.le_of_ble_eq_true rfl⟩ (nw_recv hK.k hP (i := 2) (by decide) rfl rfl) (nw_sub hP g23 by2_23) (nd_sub hD g23 (fun i hi => (by2_23 (cy := cy) (ad := ad) (n := n) (k := k) (n' := n') (k' := k') (g := g) (g' := g') i hi).1) (fun i j _ _ h => by have h : i + 2 = j + 2 := h; omega)) hl.1 rfl (Nat.le_of_ble_eq_true rfl) d_By_addAll_13 ⟨(Nat.le_of_ble_eq_true rfl), (Nat.le_of_ble_eq_true rfl)⟩ hS (fun H1 locs1 hN hS => ?_)
      have hP := hN _ _ _ hP
      generalize H1 = H at hP hS ⊢
      refine call_V (As := [.int (nI (g' i))]) (rest := []) F hK (by have z := c_By_add l D cy (fun i => ad (g01 i)) n (k + i) (upN g k g' i) (nI (g' i)) hn (by omega); rw [show bof (nI (g' i)) = g' i by rw [bof_nI (by have := hg' i (by omega); omega)]; have := hg' i (by omega); omega] at z; exact z) km_By_19 ki_By_add ks_By_add k0_By kc_By_add kd_By_add ⟨Nat.le_of_ble_eq_true rfl, Nat.le_of_ble_eq_true rfl⟩ (nw_recv hK.k hP (i := 0) (by decide) rfl rfl) (nw_sub hP g01 by2_01) (nd_sub hD g01 (fun i hi => (by2_01 (cy := cy) (ad := ad) (n := n) (k := k) (n' := n') (k' := k') (g := g) (g' := g') i hi).1) (fun i j _ _ h => h)) hl.1 rfl (Nat.le_of_ble_eq_true rfl) d_By_addAll_16 ⟨(Nat.le_of_ble_eq_true rfl), (Nat.le_of_ble_eq_true rfl)⟩ hS (na_sub hD hS hA g01 (fun i hi => (by2_01 (cy := cy) (ad := ad) (n := n) (k := k) (n' := n') (k' := k') (g := g) (g' := g') i hi).1)) (fun H1 locs1 hP1 hk1 hS => ?_)
      have hP : nw D vcl lt4 ad (by2C cy ad n (upN g k g' (i + 1)) (k + (i + 1)) n' g' k') H1 := by2_j hP hD hk1 hP1
      generalize H1 = H at hP hS ⊢
      refine lv_iinc (v := nI (i + 1)) (lv' := [(2, .int (nI (i + 1))), (0, .ref (ad 0)), (1, .ref (ad 2))]) hx hb d_By_addAll_19 hl (k := 0) rfl (nI_inc _) (by decide) rfl (fun ls hl => ?_)
      refine lv_goto (tgt := 2) hx hb d_By_addAll_22 (by decide) ?_
      exact ih (i + 1) (by omega) _ _ _ hP hS (lv_sub hl [0, 1, 2] rfl)
  exact loop k' 0 (by omega) _ _ _ hP hS (lv_sub hl [0, 1, 2] rfl)

/-! TornLog: count, record, word -/
theorem c_Lg_numberAt (l : Launch) (D : va_G) (cy : Nat → ClassId) (ad : Nat → Nat) (a b t o : Nat) (tp rw pt cn er rc re : Nat → Nat) (cg : Nat → Nat → Nat) (tn ln bg cp cb pn : Nat) (dn op w : Bool) (HL : ln ≤ 24) (HR : ∀ i, i < ln → rw i < 24) (HC : ∀ b, b < 24 → cn b < 2 ^ 16) (HG : ∀ b, b < 24 → ∀ j, j < cn b → cg b j < 256) (ht : t < ln) (ho : o < 2048) (ha : a = t * 2048 + o) (hb4 : b ≤ 4) : mtR l y_Lg_number b_Lg_number 3 (some .int) { frames := 2, cells := 0, slots := 0, locals := 45 } D cy [.ref (ad 3), .int (nI a), .int (nI b)] PT ad (tlC cy ad tp tn dn rw ln op bg w cp cb pt pn cn cg er rc re) (nI (num (fB cn cg (rw t)) o b)) := by
  have h1 : a / 2048 = t := by omega
  have h2 : a % 2048 = o := by omega
  have z := c_Lg_number l D cy ad a b tp rw pt cn er rc re cg tn ln bg cp cb pn dn op w HL HR HC HG (by omega) hb4
  rw [h1, h2] at z
  exact z
/-- eight bytes, the first the highest -/
def wd8 (x : Nat → Nat) : Nat → Int64
  | 0 => 0
  | k + 1 => wd8 x k * 256 + Int64.ofNat (x k)
theorem wd8_s (v : Int64) {c : Nat} (h : c < 256) : v <<< ((nI 8).toInt64 &&& 63) ||| (nI c).toInt64 = v * 256 + Int64.ofNat c := by
  have e8 : ((nI 8).toInt64 &&& 63) = 8 := by decide
  rw [e8]
  have e1 : (nI c).toInt64 = Int64.ofNat c := by
    apply Int64.toInt_inj.mp
    rw [Int32.toInt_toInt64]
    unfold nI
    rw [Int32.toInt_ofNat_of_lt (by omega), Int64.toInt_ofNat_of_lt (by omega)]
  rw [e1]
  apply Int64.toBitVec_inj.mp
  apply BitVec.eq_of_toNat_eq
  have h3 : (v <<< (8 : Int64)).toBitVec.toNat = v.toBitVec.toNat * 256 % 2 ^ 64 := by
    show (v.toBitVec <<< ((8 : Int64).toBitVec.smod 64)).toNat = _
    have : ((8 : Int64).toBitVec.smod 64) = 8#64 := by decide
    rw [this]
    simp [BitVec.toNat_shiftLeft, Nat.shiftLeft_eq]
  have h4 : (Int64.ofNat c).toBitVec.toNat = c := by
    show (BitVec.ofNat 64 c).toNat = c
    rw [BitVec.toNat_ofNat]; omega
  have h5 : ((v <<< (8 : Int64)) ||| Int64.ofNat c).toBitVec.toNat = (v.toBitVec.toNat * 256 % 2 ^ 64) ||| c := by
    rw [Int64.toBitVec_or, BitVec.toNat_or, h3, h4]
  have h6 : (v * 256 + Int64.ofNat c).toBitVec.toNat = (v.toBitVec.toNat * 256 + c) % 2 ^ 64 := by
    rw [Int64.toBitVec_add, Int64.toBitVec_mul, BitVec.toNat_add, BitVec.toNat_mul, h4]
    have : (256 : Int64).toBitVec.toNat = 256 := by decide
    rw [this]; omega
  rw [h5, h6]
  have h7 : v.toBitVec.toNat * 256 % 2 ^ 64 = (v.toBitVec.toNat % 2 ^ 56) <<< 8 := by
    rw [Nat.shiftLeft_eq]; omega
  rw [h7, ← Nat.shiftLeft_add_eq_or_of_lt (show c < 2 ^ 8 by omega), Nat.shiftLeft_eq]
  omega
/-- a public method that answers a long -/
abbrev mtXL (l : Launch) (y : MethodName) (cc : ByteArray) (maxL : Nat) (ret : Option FieldType) (rm : Room) (D : va_G) (cy : Nat → ClassId) (av : List Value) (ad : Nat → Nat) (ct : Nat → va_E) (ct1 : (Nat → Nat) → Nat → va_E) (r : Int64) : Prop :=
  ∀ sz : Nat, Met l y (Cond.code y cc maxL ret :: TG) rm (va_Pc av (fun U => U.heap.size = sz ∧ pre0 D cy PT ad ct U)) (va_Ql (fun r' (ad' : Nat → Nat) => r' = r ∧ nxt ad ad' sz) (fun ad' t => nw D vcl PT ad' (ct1 ad') t.heap) (na PT ad sz)) rm.cells rm.slots (na PT ad sz)
set_option maxRecDepth 100000 in
set_option maxHeartbeats 4000000 in
theorem c_Tl_count1 (l : Launch) (D : va_G) (cy : Nat → ClassId) (ad : Nat → Nat) (sa : Nat → Nat) (base : Nat) (hl0 : l.stackTraces = false) (tp rw pt cn er rc re : Nat → Nat) (cg : Nat → Nat → Nat) (tn ln bg cp cb pn : Nat) (dn op w : Bool) (x : Int32) (h : x < nI 0 ∨ nI 4 < x) : mtU l y_Tl_count b_Tl_count 2 (some .int) RT D cy [.ref (ad 0), .int (x)] ad (tlC cy ad tp tn dn rw ln op bg w cp cb pt pn cn cg er rc re) (fun ad' => tlC cy ad' tp tn dn rw ln op bg w cp cb pt pn cn cg er rc re) sa base xIA := by
  intro sz
  refine nx_ofW (cc := b_Tl_count) (maxL := 2) (ret := (some .int)) (own := R_Tl) (by decide) (Nat.le_of_ble_eq_true rfl) rfl ?_
  intro p e s m below meth c ls F hr hlk hex hv hl
  obtain ⟨hx, hb, hml, hown, hts⟩ := id F
  obtain ⟨rfl, ⟨hP, hK, hI⟩, hX, hlo⟩ := hv
  have hD : nd (na PT ad s.heap.size) PT ad := nd_self hI
  have hA : ∀ q, s.heap.size ≤ q → na PT ad s.heap.size q := fun q h => Or.inr h
  have hS : va_S (na PT ad s.heap.size) s.heap s.heap [] := va_S.rf
  have hl : lv_has ls 2 [(0, .ref (ad 0)), (1, .int (x))] := hl
  refine lv_iload_n hx hb d_Tl_count_0 rfl (lv_at hl 1 rfl) ?_
  refine lv_iconst (v := nI 0) hx hb d_Tl_count_1 (by decide) ?_
  refine lv_iconst (v := nI 4) hx hb d_Tl_count_2 (by decide) ?_
  exact esc_S (As := [.int (x), .int (nI 0), .int (nI 4)]) (rest := []) F hX (c_Tl_refuseOutside1 l sa base hl0 x (nI 0) (nI 4) h) km_Tl_42 kt_Tl_refuseOutside k0_Tl kc_Tl_refuseOutside kd_Tl_refuseOutside ⟨(Nat.le_of_ble_eq_true rfl), (Nat.le_of_ble_eq_true rfl)⟩ hl.1 rfl (Nat.le_of_ble_eq_true rfl) d_Tl_count_3 ⟨(Nat.le_of_ble_eq_true rfl), (Nat.le_of_ble_eq_true rfl)⟩ hS (na_lo hX hlo) hex hlk (fun t _ hz hk => fin_U hP (nxt_rf hD) hS hz hk) (fun _ h => h) (Nat.le_of_ble_eq_true rfl) (Nat.le_of_ble_eq_true rfl)
set_option maxRecDepth 100000 in
set_option maxHeartbeats 4000000 in
theorem c_Tl_count2_0 (l : Launch) (D : va_G) (cy : Nat → ClassId) (ad : Nat → Nat) (sa : Nat → Nat) (base : Nat) (hl0 : l.stackTraces = false) (tp rw pt cn er rc re : Nat → Nat) (cg : Nat → Nat → Nat) (tn ln bg cp cb pn : Nat) (dn op w : Bool)  : mtU l y_Tl_count b_Tl_count 2 (some .int) RT D cy [.ref (ad 0), .int (nI 0)] ad (tlC cy ad tp tn true rw ln op bg w cp cb pt pn cn cg er rc re) (fun ad' => tlC cy ad' tp tn true rw ln op bg w cp cb pt pn cn cg er rc re) sa base xIS := by
  intro sz
  refine nx_ofW (cc := b_Tl_count) (maxL := 2) (ret := (some .int)) (own := R_Tl) (by decide) (Nat.le_of_ble_eq_true rfl) rfl ?_
  intro p e s m below meth c ls F hr hlk hex hv hl
  obtain ⟨hx, hb, hml, hown, hts⟩ := id F
  obtain ⟨rfl, ⟨hP, hK, hI⟩, hX, hlo⟩ := hv
  have hD : nd (na PT ad s.heap.size) PT ad := nd_self hI
  have hA : ∀ q, s.heap.size ≤ q → na PT ad s.heap.size q := fun q h => Or.inr h
  have hS : va_S (na PT ad s.heap.size) s.heap s.heap [] := va_S.rf
  have hl : lv_has ls 2 [(0, .ref (ad 0)), (1, .int (nI 0))] := hl
  refine lv_iload_n hx hb d_Tl_count_0 rfl (lv_at hl 1 rfl) ?_
  refine lv_iconst (v := nI 0) hx hb d_Tl_count_1 (by decide) ?_
  refine lv_iconst (v := nI 4) hx hb d_Tl_count_2 (by decide) ?_
  refine call_SN (As := [.int (nI 0), .int (nI 0), .int (nI 4)]) (rest := []) F (c_Tl_refuseOutside0 l (nI 0) (nI 0) (nI 4) (by decide) (by decide)) km_Tl_42 kt_Tl_refuseOutside k0_Tl kc_Tl_refuseOutside kd_Tl_refuseOutside ⟨(Nat.le_of_ble_eq_true rfl), (Nat.le_of_ble_eq_true rfl)⟩ hl.1 rfl (Nat.le_of_ble_eq_true rfl) d_Tl_count_3 ⟨(Nat.le_of_ble_eq_true rfl), (Nat.le_of_ble_eq_true rfl)⟩ hS (fun H1 locs1 hN hS => ?_)
  have hP := hN _ _ _ _ hP
  generalize H1 = H at hP hS ⊢
  refine lv_iload_n hx hb d_Tl_count_6 rfl (lv_at hl 1 rfl) ?_
  refine lv_tableIn (tgt := 36) (off := 29) hx hb d_Tl_count_7 (by decide) (by decide) (by decide) (by decide) ?_
  refine lv_aload_n hx hb d_Tl_count_36 rfl (lv_at hl 0 rfl) ?_
  exact esc_V (As := []) (rest := []) F hK hX (c_Tl_refuseWhenDown1 l D cy ad sa base hl0 tp rw pt cn er rc re cg tn ln bg cp cb pn false op w) km_Tl_29 ki_Tl_refuseWhenDown ks_Tl_refuseWhenDown k0_Tl kc_Tl_refuseWhenDown kd_Tl_refuseWhenDown ⟨(Nat.le_of_ble_eq_true rfl), (Nat.le_of_ble_eq_true rfl)⟩ (nw_recv hK.k hP (i := 0) (by decide) tl_0 rfl) (hP) (hI) (hlo) hl.1 rfl (Nat.le_of_ble_eq_true rfl) d_Tl_count_37 ⟨(Nat.le_of_ble_eq_true rfl), (Nat.le_of_ble_eq_true rfl)⟩ hS (na_lo hX hlo) hex hlk (fun t _ hz hk => fin_U hP (nxt_rf hD) hS hz hk) (fun _ h => h) (Nat.le_of_ble_eq_true rfl) (Nat.le_of_ble_eq_true rfl)
set_option maxRecDepth 100000 in
set_option maxHeartbeats 4000000 in
theorem c_Tl_count2_1 (l : Launch) (D : va_G) (cy : Nat → ClassId) (ad : Nat → Nat) (sa : Nat → Nat) (base : Nat) (hl0 : l.stackTraces = false) (tp rw pt cn er rc re : Nat → Nat) (cg : Nat → Nat → Nat) (tn ln bg cp cb pn : Nat) (dn op w : Bool)  : mtU l y_Tl_count b_Tl_count 2 (some .int) RT D cy [.ref (ad 0), .int (nI 1)] ad (tlC cy ad tp tn true rw ln op bg w cp cb pt pn cn cg er rc re) (fun ad' => tlC cy ad' tp tn true rw ln op bg w cp cb pt pn cn cg er rc re) sa base xIS := by
  intro sz
  refine nx_ofW (cc := b_Tl_count) (maxL := 2) (ret := (some .int)) (own := R_Tl) (by decide) (Nat.le_of_ble_eq_true rfl) rfl ?_
  intro p e s m below meth c ls F hr hlk hex hv hl
  obtain ⟨hx, hb, hml, hown, hts⟩ := id F
  obtain ⟨rfl, ⟨hP, hK, hI⟩, hX, hlo⟩ := hv
  have hD : nd (na PT ad s.heap.size) PT ad := nd_self hI
  have hA : ∀ q, s.heap.size ≤ q → na PT ad s.heap.size q := fun q h => Or.inr h
  have hS : va_S (na PT ad s.heap.size) s.heap s.heap [] := va_S.rf
  have hl : lv_has ls 2 [(0, .ref (ad 0)), (1, .int (nI 1))] := hl
  refine lv_iload_n hx hb d_Tl_count_0 rfl (lv_at hl 1 rfl) ?_
  refine lv_iconst (v := nI 0) hx hb d_Tl_count_1 (by decide) ?_
  refine lv_iconst (v := nI 4) hx hb d_Tl_count_2 (by decide) ?_
  refine call_SN (As := [.int (nI 1), .int (nI 0), .int (nI 4)]) (rest := []) F (c_Tl_refuseOutside0 l (nI 1) (nI 0) (nI 4) (by decide) (by decide)) km_Tl_42 kt_Tl_refuseOutside k0_Tl kc_Tl_refuseOutside kd_Tl_refuseOutside ⟨(Nat.le_of_ble_eq_true rfl), (Nat.le_of_ble_eq_true rfl)⟩ hl.1 rfl (Nat.le_of_ble_eq_true rfl) d_Tl_count_3 ⟨(Nat.le_of_ble_eq_true rfl), (Nat.le_of_ble_eq_true rfl)⟩ hS (fun H1 locs1 hN hS => ?_)
  have hP := hN _ _ _ _ hP
  generalize H1 = H at hP hS ⊢
  refine lv_iload_n hx hb d_Tl_count_6 rfl (lv_at hl 1 rfl) ?_
  refine lv_tableIn (tgt := 48) (off := 41) hx hb d_Tl_count_7 (by decide) (by decide) (by decide) (by decide) ?_
  refine lv_aload_n hx hb d_Tl_count_48 rfl (lv_at hl 0 rfl) ?_
  exact esc_V (As := []) (rest := []) F hK hX (c_Tl_refuseWhenDown1 l D cy ad sa base hl0 tp rw pt cn er rc re cg tn ln bg cp cb pn false op w) km_Tl_29 ki_Tl_refuseWhenDown ks_Tl_refuseWhenDown k0_Tl kc_Tl_refuseWhenDown kd_Tl_refuseWhenDown ⟨(Nat.le_of_ble_eq_true rfl), (Nat.le_of_ble_eq_true rfl)⟩ (nw_recv hK.k hP (i := 0) (by decide) tl_0 rfl) (hP) (hI) (hlo) hl.1 rfl (Nat.le_of_ble_eq_true rfl) d_Tl_count_49 ⟨(Nat.le_of_ble_eq_true rfl), (Nat.le_of_ble_eq_true rfl)⟩ hS (na_lo hX hlo) hex hlk (fun t _ hz hk => fin_U hP (nxt_rf hD) hS hz hk) (fun _ h => h) (Nat.le_of_ble_eq_true rfl) (Nat.le_of_ble_eq_true rfl)
set_option maxRecDepth 100000 in
set_option maxHeartbeats 4000000 in
theorem c_Tl_count0_0 (l : Launch) (D : va_G) (cy : Nat → ClassId) (ad : Nat → Nat) (tp rw pt cn er rc re : Nat → Nat) (cg : Nat → Nat → Nat) (tn ln bg cp cb pn : Nat) (dn op w : Bool) (HL : ln ≤ 24) (HR : ∀ i, i < ln → rw i < 24) (HQ : ∀ b, b < 24 → rc b < 2 ^ 16 ∧ re b < 2 ^ 16) : mtX l y_Tl_count b_Tl_count 2 (some .int) RT D cy [.ref (ad 0), .int (nI 0)] ad (tlC cy ad tp tn false rw ln op bg w cp cb pt pn cn cg er rc re) (fun ad' => tlC cy ad' tp tn false rw ln op bg w cp cb pt pn cn cg er rc re) (nI (sumR rc rw ln)) := by
  intro sz
  refine nm_ofW (cc := b_Tl_count) (maxL := 2) (ret := (some .int)) (own := R_Tl) (by decide) (Nat.le_of_ble_eq_true rfl) rfl ?_
  intro p e s m below meth c ls F hr hlk hnm hv hl
  obtain ⟨hx, hb, hml, hown, hts⟩ := id F
  obtain ⟨rfl, hP, hK, hI⟩ := hv
  have hD : nd (na PT ad s.heap.size) PT ad := nd_self hI
  have hA : ∀ q, s.heap.size ≤ q → na PT ad s.heap.size q := fun q h => Or.inr h
  have hS : va_S (na PT ad s.heap.size) s.heap s.heap [] := va_S.rf
  have hl : lv_has ls 2 [(0, .ref (ad 0)), (1, .int (nI 0))] := hl
  refine lv_iload_n hx hb d_Tl_count_0 rfl (lv_at hl 1 rfl) ?_
  refine lv_iconst (v := nI 0) hx hb d_Tl_count_1 (by decide) ?_
  refine lv_iconst (v := nI 4) hx hb d_Tl_count_2 (by decide) ?_
  refine call_SN (As := [.int (nI 0), .int (nI 0), .int (nI 4)]) (rest := []) F (c_Tl_refuseOutside0 l (nI 0) (nI 0) (nI 4) (by decide) (by decide)) km_Tl_42 kt_Tl_refuseOutside k0_Tl kc_Tl_refuseOutside kd_Tl_refuseOutside ⟨(Nat.le_of_ble_eq_true rfl), (Nat.le_of_ble_eq_true rfl)⟩ hl.1 rfl (Nat.le_of_ble_eq_true rfl) d_Tl_count_3 ⟨(Nat.le_of_ble_eq_true rfl), (Nat.le_of_ble_eq_true rfl)⟩ hS (fun H1 locs1 hN hS => ?_)
  have hP := hN _ _ _ _ hP
  generalize H1 = H at hP hS ⊢
  refine lv_iload_n hx hb d_Tl_count_6 rfl (lv_at hl 1 rfl) ?_
  refine lv_tableIn (tgt := 36) (off := 29) hx hb d_Tl_count_7 (by decide) (by decide) (by decide) (by decide) ?_
  refine lv_aload_n hx hb d_Tl_count_36 rfl (lv_at hl 0 rfl) ?_
  refine call_N (As := []) (rest := []) F hK (c_Tl_refuseWhenDown0 l D cy ad tp rw pt cn er rc re cg tn ln bg cp cb pn false op w) km_Tl_29 ki_Tl_refuseWhenDown ks_Tl_refuseWhenDown k0_Tl kc_Tl_refuseWhenDown kd_Tl_refuseWhenDown ⟨(Nat.le_of_ble_eq_true rfl), (Nat.le_of_ble_eq_true rfl)⟩ (nw_recv hK.k hP (i := 0) (by decide) tl_0 rfl) (hP) (hI) hl.1 rfl (Nat.le_of_ble_eq_true rfl) d_Tl_count_37 ⟨(Nat.le_of_ble_eq_true rfl), (Nat.le_of_ble_eq_true rfl)⟩ hS (fun H1 locs1 hN hS => ?_)
  have hP := hN _ _ _ hP
  generalize H1 = H at hP hS ⊢
  refine lv_aload_n hx hb d_Tl_count_40 rfl (lv_at hl 0 rfl) ?_
  refine nw_get (D := D) (ci := 4) (C := R_Tl) (T := T_Tl) (N := 3) hx hb hts in_Tl hown hK.k hP (i := 0) (by decide) tl_0 rfl 1 (by decide) (hts _ kf_Tl_21) rfl d_Tl_count_41 ?_
  refine call_R (As := []) (rest := []) F hK (c_Lg_records l D cy ad tp rw pt cn er rc re cg tn ln bg cp cb pn false op w HL HR HQ) km_Tl_105 ki_Lg_records ks_Lg_records k0_Lg kc_Lg_records kd_Lg_records ⟨Nat.le_of_ble_eq_true rfl, Nat.le_of_ble_eq_true rfl⟩ (nw_recv hK.k hP (i := 3) (by decide) tl_3 rfl) (hP) (hI) hl.1 rfl (Nat.le_of_ble_eq_true rfl) d_Tl_count_44 ⟨(Nat.le_of_ble_eq_true rfl), (Nat.le_of_ble_eq_true rfl)⟩ hS (fun H1 locs1 hN hS => ?_)
  have hP := hN _ _ _ hP
  generalize H1 = H at hP hS ⊢
  refine W.widen (k := 2) (n := 2054) (Nat.le_of_ble_eq_true rfl) (Nat.le_of_ble_eq_true rfl) ?_
  exact W.zret hx hb hr rfl (fun t ht hW => ⟨⟨_, ad, rfl, ⟨rfl, nxt_rf hD⟩, by show nw _ _ _ _ _ t.heap; rw [ht]; exact hP⟩, hS.F ht⟩) hS.2.2 d_Tl_count_47 hlk
set_option maxRecDepth 100000 in
set_option maxHeartbeats 4000000 in
theorem c_Tl_count0_1 (l : Launch) (D : va_G) (cy : Nat → ClassId) (ad : Nat → Nat) (tp rw pt cn er rc re : Nat → Nat) (cg : Nat → Nat → Nat) (tn ln bg cp cb pn : Nat) (dn op w : Bool)  : mtX l y_Tl_count b_Tl_count 2 (some .int) RT D cy [.ref (ad 0), .int (nI 1)] ad (tlC cy ad tp tn false rw ln op bg w cp cb pt pn cn cg er rc re) (fun ad' => tlC cy ad' tp tn false rw ln op bg w cp cb pt pn cn cg er rc re) (nI ln) := by
  intro sz
  refine nm_ofW (cc := b_Tl_count) (maxL := 2) (ret := (some .int)) (own := R_Tl) (by decide) (Nat.le_of_ble_eq_true rfl) rfl ?_
  intro p e s m below meth c ls F hr hlk hnm hv hl
  obtain ⟨hx, hb, hml, hown, hts⟩ := id F
  obtain ⟨rfl, hP, hK, hI⟩ := hv
  have hD : nd (na PT ad s.heap.size) PT ad := nd_self hI
  have hA : ∀ q, s.heap.size ≤ q → na PT ad s.heap.size q := fun q h => Or.inr h
  have hS : va_S (na PT ad s.heap.size) s.heap s.heap [] := va_S.rf
  have hl : lv_has ls 2 [(0, .ref (ad 0)), (1, .int (nI 1))] := hl
  refine lv_iload_n hx hb d_Tl_count_0 rfl (lv_at hl 1 rfl) ?_
  refine lv_iconst (v := nI 0) hx hb d_Tl_count_1 (by decide) ?_
  refine lv_iconst (v := nI 4) hx hb d_Tl_count_2 (by decide) ?_
  refine call_SN (As := [.int (nI 1), .int (nI 0), .int (nI 4)]) (rest := []) F (c_Tl_refuseOutside0 l (nI 1) (nI 0) (nI 4) (by decide) (by decide)) km_Tl_42 kt_Tl_refuseOutside k0_Tl kc_Tl_refuseOutside kd_Tl_refuseOutside ⟨(Nat.le_of_ble_eq_true rfl), (Nat.le_of_ble_eq_true rfl)⟩ hl.1 rfl (Nat.le_of_ble_eq_true rfl) d_Tl_count_3 ⟨(Nat.le_of_ble_eq_true rfl), (Nat.le_of_ble_eq_true rfl)⟩ hS (fun H1 locs1 hN hS => ?_)
  have hP := hN _ _ _ _ hP
  generalize H1 = H at hP hS ⊢
  refine lv_iload_n hx hb d_Tl_count_6 rfl (lv_at hl 1 rfl) ?_
  refine lv_tableIn (tgt := 48) (off := 41) hx hb d_Tl_count_7 (by decide) (by decide) (by decide) (by decide) ?_
  refine lv_aload_n hx hb d_Tl_count_48 rfl (lv_at hl 0 rfl) ?_
  refine call_N (As := []) (rest := []) F hK (c_Tl_refuseWhenDown0 l D cy ad tp rw pt cn er rc re cg tn ln bg cp cb pn false op w) km_Tl_29 ki_Tl_refuseWhenDown ks_Tl_refuseWhenDown k0_Tl kc_Tl_refuseWhenDown kd_Tl_refuseWhenDown ⟨(Nat.le_of_ble_eq_true rfl), (Nat.le_of_ble_eq_true rfl)⟩ (nw_recv hK.k hP (i := 0) (by decide) tl_0 rfl) (hP) (hI) hl.1 rfl (Nat.le_of_ble_eq_true rfl) d_Tl_count_49 ⟨(Nat.le_of_ble_eq_true rfl), (Nat.le_of_ble_eq_true rfl)⟩ hS (fun H1 locs1 hN hS => ?_)
  have hP := hN _ _ _ hP
  generalize H1 = H at hP hS ⊢
  refine lv_aload_n hx hb d_Tl_count_52 rfl (lv_at hl 0 rfl) ?_
  refine nw_get (D := D) (ci := 4) (C := R_Tl) (T := T_Tl) (N := 3) hx hb hts in_Tl hown hK.k hP (i := 0) (by decide) tl_0 rfl 1 (by decide) (hts _ kf_Tl_21) rfl d_Tl_count_53 ?_
  refine nw_getN (D := D) (ci := 3) (C := R_Lg) (T := T_Lg) (N := 7) hx hb hts in_Lg hown hK.k hP (i := 3) (by decide) tl_3 rfl 2 (by decide) (hK.nest 8 (by decide) rfl) rfl d_Tl_count_56 ?_
  refine W.widen (k := 2) (n := 2054) (Nat.le_of_ble_eq_true rfl) (Nat.le_of_ble_eq_true rfl) ?_
  exact W.zret hx hb hr rfl (fun t ht hW => ⟨⟨_, ad, rfl, ⟨rfl, nxt_rf hD⟩, by show nw _ _ _ _ _ t.heap; rw [ht]; exact hP⟩, hS.F ht⟩) hS.2.2 d_Tl_count_59 hlk
set_option maxRecDepth 100000 in
set_option maxHeartbeats 4000000 in
theorem c_Tl_count0_2 (l : Launch) (D : va_G) (cy : Nat → ClassId) (ad : Nat → Nat) (tp rw pt cn er rc re : Nat → Nat) (cg : Nat → Nat → Nat) (tn ln bg cp cb pn : Nat) (dn op w : Bool)  : mtX l y_Tl_count b_Tl_count 2 (some .int) RT D cy [.ref (ad 0), .int (nI 2)] ad (tlC cy ad tp tn dn rw ln op bg w cp cb pt pn cn cg er rc re) (fun ad' => tlC cy ad' tp tn dn rw ln op bg w cp cb pt pn cn cg er rc re) (bI dn) := by
  intro sz
  refine nm_ofW (cc := b_Tl_count) (maxL := 2) (ret := (some .int)) (own := R_Tl) (by decide) (Nat.le_of_ble_eq_true rfl) rfl ?_
  intro p e s m below meth c ls F hr hlk hnm hv hl
  obtain ⟨hx, hb, hml, hown, hts⟩ := id F
  obtain ⟨rfl, hP, hK, hI⟩ := hv
  have hD : nd (na PT ad s.heap.size) PT ad := nd_self hI
  have hA : ∀ q, s.heap.size ≤ q → na PT ad s.heap.size q := fun q h => Or.inr h
  have hS : va_S (na PT ad s.heap.size) s.heap s.heap [] := va_S.rf
  have hl : lv_has ls 2 [(0, .ref (ad 0)), (1, .int (nI 2))] := hl
  refine lv_iload_n hx hb d_Tl_count_0 rfl (lv_at hl 1 rfl) ?_
  refine lv_iconst (v := nI 0) hx hb d_Tl_count_1 (by decide) ?_
  refine lv_iconst (v := nI 4) hx hb d_Tl_count_2 (by decide) ?_
  refine call_SN (As := [.int (nI 2), .int (nI 0), .int (nI 4)]) (rest := []) F (c_Tl_refuseOutside0 l (nI 2) (nI 0) (nI 4) (by decide) (by decide)) km_Tl_42 kt_Tl_refuseOutside k0_Tl kc_Tl_refuseOutside kd_Tl_refuseOutside ⟨(Nat.le_of_ble_eq_true rfl), (Nat.le_of_ble_eq_true rfl)⟩ hl.1 rfl (Nat.le_of_ble_eq_true rfl) d_Tl_count_3 ⟨(Nat.le_of_ble_eq_true rfl), (Nat.le_of_ble_eq_true rfl)⟩ hS (fun H1 locs1 hN hS => ?_)
  have hP := hN _ _ _ _ hP
  generalize H1 = H at hP hS ⊢
  refine lv_iload_n hx hb d_Tl_count_6 rfl (lv_at hl 1 rfl) ?_
  refine lv_tableIn (tgt := 60) (off := 53) hx hb d_Tl_count_7 (by decide) (by decide) (by decide) (by decide) ?_
  refine lv_aload_n hx hb d_Tl_count_60 rfl (lv_at hl 0 rfl) ?_
  refine nw_get (D := D) (ci := 4) (C := R_Tl) (T := T_Tl) (N := 3) hx hb hts in_Tl hown hK.k hP (i := 0) (by decide) tl_0 rfl 2 (by decide) (hts _ kf_Tl_25) rfl d_Tl_count_61 ?_
  refine lv_if_eq (tgt := 71) hx hb d_Tl_count_64 (by decide) (fun c64 => ?_) (fun c64 => ?_)
  · have c64 := bI_eq0.mp c64
    refine lv_iconst (v := nI 0) hx hb d_Tl_count_71 (by decide) ?_
    refine lv_eqi (y := bI dn) (by rw [c64]; rfl) ?_
    refine W.widen (k := 2) (n := 2054) (Nat.le_of_ble_eq_true rfl) (Nat.le_of_ble_eq_true rfl) ?_
    exact W.zret hx hb hr rfl (fun t ht hW => ⟨⟨_, ad, rfl, ⟨rfl, nxt_rf hD⟩, by show nw _ _ _ _ _ t.heap; rw [ht]; exact hP⟩, hS.F ht⟩) hS.2.2 d_Tl_count_72 hlk
  · have c64 := mt bI_eq0.mpr c64
    refine lv_iconst (v := nI 1) hx hb d_Tl_count_67 (by decide) ?_
    refine lv_goto (tgt := 72) hx hb d_Tl_count_68 (by decide) ?_
    have c64 : dn = true := by simpa using c64
    refine lv_eqi (y := bI dn) (by rw [c64]; rfl) ?_
    refine W.widen (k := 2) (n := 2054) (Nat.le_of_ble_eq_true rfl) (Nat.le_of_ble_eq_true rfl) ?_
    exact W.zret hx hb hr rfl (fun t ht hW => ⟨⟨_, ad, rfl, ⟨rfl, nxt_rf hD⟩, by show nw _ _ _ _ _ t.heap; rw [ht]; exact hP⟩, hS.F ht⟩) hS.2.2 d_Tl_count_72 hlk
set_option maxRecDepth 100000 in
set_option maxHeartbeats 4000000 in
theorem c_Tl_count0_3 (l : Launch) (D : va_G) (cy : Nat → ClassId) (ad : Nat → Nat) (tp rw pt cn er rc re : Nat → Nat) (cg : Nat → Nat → Nat) (tn ln bg cp cb pn : Nat) (dn op w : Bool)  : mtX l y_Tl_count b_Tl_count 2 (some .int) RT D cy [.ref (ad 0), .int (nI 3)] ad (tlC cy ad tp tn dn rw ln op bg w cp cb pt pn cn cg er rc re) (fun ad' => tlC cy ad' tp tn dn rw ln op bg w cp cb pt pn cn cg er rc re) (nI tn) := by
  intro sz
  refine nm_ofW (cc := b_Tl_count) (maxL := 2) (ret := (some .int)) (own := R_Tl) (by decide) (Nat.le_of_ble_eq_true rfl) rfl ?_
  intro p e s m below meth c ls F hr hlk hnm hv hl
  obtain ⟨hx, hb, hml, hown, hts⟩ := id F
  obtain ⟨rfl, hP, hK, hI⟩ := hv
  have hD : nd (na PT ad s.heap.size) PT ad := nd_self hI
  have hA : ∀ q, s.heap.size ≤ q → na PT ad s.heap.size q := fun q h => Or.inr h
  have hS : va_S (na PT ad s.heap.size) s.heap s.heap [] := va_S.rf
  have hl : lv_has ls 2 [(0, .ref (ad 0)), (1, .int (nI 3))] := hl
  refine lv_iload_n hx hb d_Tl_count_0 rfl (lv_at hl 1 rfl) ?_
  refine lv_iconst (v := nI 0) hx hb d_Tl_count_1 (by decide) ?_
  refine lv_iconst (v := nI 4) hx hb d_Tl_count_2 (by decide) ?_
  refine call_SN (As := [.int (nI 3), .int (nI 0), .int (nI 4)]) (rest := []) F (c_Tl_refuseOutside0 l (nI 3) (nI 0) (nI 4) (by decide) (by decide)) km_Tl_42 kt_Tl_refuseOutside k0_Tl kc_Tl_refuseOutside kd_Tl_refuseOutside ⟨(Nat.le_of_ble_eq_true rfl), (Nat.le_of_ble_eq_true rfl)⟩ hl.1 rfl (Nat.le_of_ble_eq_true rfl) d_Tl_count_3 ⟨(Nat.le_of_ble_eq_true rfl), (Nat.le_of_ble_eq_true rfl)⟩ hS (fun H1 locs1 hN hS => ?_)
  have hP := hN _ _ _ _ hP
  generalize H1 = H at hP hS ⊢
  refine lv_iload_n hx hb d_Tl_count_6 rfl (lv_at hl 1 rfl) ?_
  refine lv_tableIn (tgt := 73) (off := 66) hx hb d_Tl_count_7 (by decide) (by decide) (by decide) (by decide) ?_
  refine lv_aload_n hx hb d_Tl_count_73 rfl (lv_at hl 0 rfl) ?_
  refine nw_get (D := D) (ci := 4) (C := R_Tl) (T := T_Tl) (N := 3) hx hb hts in_Tl hown hK.k hP (i := 0) (by decide) tl_0 rfl 0 (by decide) (hts _ kf_Tl_14) rfl d_Tl_count_74 ?_
  refine nw_getN (D := D) (ci := 1) (C := R_By) (T := T_By) (N := 2) hx hb hts in_By hown hK.k hP (i := 1) (by decide) tl_1 rfl 1 (by decide) (hK.nest 0 (by decide) rfl) rfl d_Tl_count_77 ?_
  refine W.widen (k := 2) (n := 2054) (Nat.le_of_ble_eq_true rfl) (Nat.le_of_ble_eq_true rfl) ?_
  exact W.zret hx hb hr rfl (fun t ht hW => ⟨⟨_, ad, rfl, ⟨rfl, nxt_rf hD⟩, by show nw _ _ _ _ _ t.heap; rw [ht]; exact hP⟩, hS.F ht⟩) hS.2.2 d_Tl_count_80 hlk
set_option maxRecDepth 100000 in
set_option maxHeartbeats 4000000 in
theorem c_Tl_count0_4 (l : Launch) (D : va_G) (cy : Nat → ClassId) (ad : Nat → Nat) (tp rw pt cn er rc re : Nat → Nat) (cg : Nat → Nat → Nat) (tn ln bg cp cb pn : Nat) (dn op w : Bool)  : mtX l y_Tl_count b_Tl_count 2 (some .int) RT D cy [.ref (ad 0), .int (nI 4)] ad (tlC cy ad tp tn dn rw ln op bg w cp cb pt pn cn cg er rc re) (fun ad' => tlC cy ad' tp tn dn rw ln op bg w cp cb pt pn cn cg er rc re) (nI 0) := by
  intro sz
  refine nm_ofW (cc := b_Tl_count) (maxL := 2) (ret := (some .int)) (own := R_Tl) (by decide) (Nat.le_of_ble_eq_true rfl) rfl ?_
  intro p e s m below meth c ls F hr hlk hnm hv hl
  obtain ⟨hx, hb, hml, hown, hts⟩ := id F
  obtain ⟨rfl, hP, hK, hI⟩ := hv
  have hD : nd (na PT ad s.heap.size) PT ad := nd_self hI
  have hA : ∀ q, s.heap.size ≤ q → na PT ad s.heap.size q := fun q h => Or.inr h
  have hS : va_S (na PT ad s.heap.size) s.heap s.heap [] := va_S.rf
  have hl : lv_has ls 2 [(0, .ref (ad 0)), (1, .int (nI 4))] := hl
  refine lv_iload_n hx hb d_Tl_count_0 rfl (lv_at hl 1 rfl) ?_
  refine lv_iconst (v := nI 0) hx hb d_Tl_count_1 (by decide) ?_
  refine lv_iconst (v := nI 4) hx hb d_Tl_count_2 (by decide) ?_
  refine call_SN (As := [.int (nI 4), .int (nI 0), .int (nI 4)]) (rest := []) F (c_Tl_refuseOutside0 l (nI 4) (nI 0) (nI 4) (by decide) (by decide)) km_Tl_42 kt_Tl_refuseOutside k0_Tl kc_Tl_refuseOutside kd_Tl_refuseOutside ⟨(Nat.le_of_ble_eq_true rfl), (Nat.le_of_ble_eq_true rfl)⟩ hl.1 rfl (Nat.le_of_ble_eq_true rfl) d_Tl_count_3 ⟨(Nat.le_of_ble_eq_true rfl), (Nat.le_of_ble_eq_true rfl)⟩ hS (fun H1 locs1 hN hS => ?_)
  have hP := hN _ _ _ _ hP
  generalize H1 = H at hP hS ⊢
  refine lv_iload_n hx hb d_Tl_count_6 rfl (lv_at hl 1 rfl) ?_
  refine lv_tableOut (tgt := 81) hx hb d_Tl_count_7 (by decide) (by decide) ?_
  refine lv_aload_n hx hb d_Tl_count_81 rfl (lv_at hl 0 rfl) ?_
  refine nw_get (D := D) (ci := 4) (C := R_Tl) (T := T_Tl) (N := 3) hx hb hts in_Tl hown hK.k hP (i := 0) (by decide) tl_0 rfl 1 (by decide) (hts _ kf_Tl_21) rfl d_Tl_count_82 ?_
  refine call_R (As := []) (rest := []) F hK (c_Lg_overwritten l D cy ad tp rw pt cn er rc re cg tn ln bg cp cb pn dn op w) km_Tl_118 ki_Lg_overwritten ks_Lg_overwritten k0_Lg kc_Lg_overwritten kd_Lg_overwritten ⟨Nat.le_of_ble_eq_true rfl, Nat.le_of_ble_eq_true rfl⟩ (nw_recv hK.k hP (i := 3) (by decide) tl_3 rfl) (hP) (hI) hl.1 rfl (Nat.le_of_ble_eq_true rfl) d_Tl_count_85 ⟨(Nat.le_of_ble_eq_true rfl), (Nat.le_of_ble_eq_true rfl)⟩ hS (fun H1 locs1 hN hS => ?_)
  have hP := hN _ _ _ hP
  generalize H1 = H at hP hS ⊢
  refine W.widen (k := 2) (n := 2054) (Nat.le_of_ble_eq_true rfl) (Nat.le_of_ble_eq_true rfl) ?_
  exact W.zret hx hb hr rfl (fun t ht hW => ⟨⟨_, ad, rfl, ⟨rfl, nxt_rf hD⟩, by show nw _ _ _ _ _ t.heap; rw [ht]; exact hP⟩, hS.F ht⟩) hS.2.2 d_Tl_count_88 hlk
set_option maxRecDepth 100000 in
set_option maxHeartbeats 4000000 in
theorem c_Tl_record1 (l : Launch) (D : va_G) (cy : Nat → ClassId) (ad : Nat → Nat) (sa : Nat → Nat) (base : Nat) (hl0 : l.stackTraces = false) (tp rw pt cn er rc re : Nat → Nat) (cg : Nat → Nat → Nat) (tn ln bg cp cb pn : Nat) (dn op w : Bool) (x y : Int32) (h : y < nI 0 ∨ nI 4 < y) : mtU l y_Tl_record b_Tl_record 4 (some .int) RT D cy [.ref (ad 0), .int (x), .int (y)] ad (tlC cy ad tp tn dn rw ln op bg w cp cb pt pn cn cg er rc re) (fun ad' => tlC cy ad' tp tn dn rw ln op bg w cp cb pt pn cn cg er rc re) sa base xIA := by
  intro sz
  refine nx_ofW (cc := b_Tl_record) (maxL := 4) (ret := (some .int)) (own := R_Tl) (by decide) (Nat.le_of_ble_eq_true rfl) rfl ?_
  intro p e s m below meth c ls F hr hlk hex hv hl
  obtain ⟨hx, hb, hml, hown, hts⟩ := id F
  obtain ⟨rfl, ⟨hP, hK, hI⟩, hX, hlo⟩ := hv
  have hD : nd (na PT ad s.heap.size) PT ad := nd_self hI
  have hA : ∀ q, s.heap.size ≤ q → na PT ad s.heap.size q := fun q h => Or.inr h
  have hS : va_S (na PT ad s.heap.size) s.heap s.heap [] := va_S.rf
  have hl : lv_has ls 4 [(0, .ref (ad 0)), (1, .int (x)), (2, .int (y))] := hl
  refine lv_iload_n hx hb d_Tl_record_0 rfl (lv_at hl 2 rfl) ?_
  refine lv_iconst (v := nI 0) hx hb d_Tl_record_1 (by decide) ?_
  refine lv_iconst (v := nI 4) hx hb d_Tl_record_2 (by decide) ?_
  exact esc_S (As := [.int (y), .int (nI 0), .int (nI 4)]) (rest := []) F hX (c_Tl_refuseOutside1 l sa base hl0 y (nI 0) (nI 4) h) km_Tl_42 kt_Tl_refuseOutside k0_Tl kc_Tl_refuseOutside kd_Tl_refuseOutside ⟨(Nat.le_of_ble_eq_true rfl), (Nat.le_of_ble_eq_true rfl)⟩ hl.1 rfl (Nat.le_of_ble_eq_true rfl) d_Tl_record_3 ⟨(Nat.le_of_ble_eq_true rfl), (Nat.le_of_ble_eq_true rfl)⟩ hS (na_lo hX hlo) hex hlk (fun t _ hz hk => fin_U hP (nxt_rf hD) hS hz hk) (fun _ h => h) (Nat.le_of_ble_eq_true rfl) (Nat.le_of_ble_eq_true rfl)
set_option maxRecDepth 100000 in
set_option maxHeartbeats 4000000 in
theorem c_Tl_record2 (l : Launch) (D : va_G) (cy : Nat → ClassId) (ad : Nat → Nat) (sa : Nat → Nat) (base : Nat) (hl0 : l.stackTraces = false) (tp rw pt cn er rc re : Nat → Nat) (cg : Nat → Nat → Nat) (tn ln bg cp cb pn : Nat) (dn op w : Bool) (x y : Int32) (h1 : ¬ y < nI 0) (h2 : ¬ nI 4 < y) : mtU l y_Tl_record b_Tl_record 4 (some .int) RT D cy [.ref (ad 0), .int (x), .int (y)] ad (tlC cy ad tp tn true rw ln op bg w cp cb pt pn cn cg er rc re) (fun ad' => tlC cy ad' tp tn true rw ln op bg w cp cb pt pn cn cg er rc re) sa base xIS := by
  intro sz
  refine nx_ofW (cc := b_Tl_record) (maxL := 4) (ret := (some .int)) (own := R_Tl) (by decide) (Nat.le_of_ble_eq_true rfl) rfl ?_
  intro p e s m below meth c ls F hr hlk hex hv hl
  obtain ⟨hx, hb, hml, hown, hts⟩ := id F
  obtain ⟨rfl, ⟨hP, hK, hI⟩, hX, hlo⟩ := hv
  have hD : nd (na PT ad s.heap.size) PT ad := nd_self hI
  have hA : ∀ q, s.heap.size ≤ q → na PT ad s.heap.size q := fun q h => Or.inr h
  have hS : va_S (na PT ad s.heap.size) s.heap s.heap [] := va_S.rf
  have hl : lv_has ls 4 [(0, .ref (ad 0)), (1, .int (x)), (2, .int (y))] := hl
  refine lv_iload_n hx hb d_Tl_record_0 rfl (lv_at hl 2 rfl) ?_
  refine lv_iconst (v := nI 0) hx hb d_Tl_record_1 (by decide) ?_
  refine lv_iconst (v := nI 4) hx hb d_Tl_record_2 (by decide) ?_
  refine call_SN (As := [.int (y), .int (nI 0), .int (nI 4)]) (rest := []) F (c_Tl_refuseOutside0 l y (nI 0) (nI 4) h1 h2) km_Tl_42 kt_Tl_refuseOutside k0_Tl kc_Tl_refuseOutside kd_Tl_refuseOutside ⟨(Nat.le_of_ble_eq_true rfl), (Nat.le_of_ble_eq_true rfl)⟩ hl.1 rfl (Nat.le_of_ble_eq_true rfl) d_Tl_record_3 ⟨(Nat.le_of_ble_eq_true rfl), (Nat.le_of_ble_eq_true rfl)⟩ hS (fun H1 locs1 hN hS => ?_)
  have hP := hN _ _ _ _ hP
  generalize H1 = H at hP hS ⊢
  refine lv_aload_n hx hb d_Tl_record_6 rfl (lv_at hl 0 rfl) ?_
  exact esc_V (As := []) (rest := []) F hK hX (c_Tl_refuseWhenDown1 l D cy ad sa base hl0 tp rw pt cn er rc re cg tn ln bg cp cb pn false op w) km_Tl_29 ki_Tl_refuseWhenDown ks_Tl_refuseWhenDown k0_Tl kc_Tl_refuseWhenDown kd_Tl_refuseWhenDown ⟨(Nat.le_of_ble_eq_true rfl), (Nat.le_of_ble_eq_true rfl)⟩ (nw_recv hK.k hP (i := 0) (by decide) tl_0 rfl) (hP) (hI) (hlo) hl.1 rfl (Nat.le_of_ble_eq_true rfl) d_Tl_record_7 ⟨(Nat.le_of_ble_eq_true rfl), (Nat.le_of_ble_eq_true rfl)⟩ hS (na_lo hX hlo) hex hlk (fun t _ hz hk => fin_U hP (nxt_rf hD) hS hz hk) (fun _ h => h) (Nat.le_of_ble_eq_true rfl) (Nat.le_of_ble_eq_true rfl)
set_option maxRecDepth 100000 in
set_option maxHeartbeats 4000000 in
theorem c_Tl_record3 (l : Launch) (D : va_G) (cy : Nat → ClassId) (ad : Nat → Nat) (sa : Nat → Nat) (base : Nat) (hl0 : l.stackTraces = false) (tp rw pt cn er rc re : Nat → Nat) (cg : Nat → Nat → Nat) (tn ln bg cp cb pn : Nat) (dn op w : Bool) (x y : Int32) (h1 : ¬ y < nI 0) (h2 : ¬ nI 4 < y) (hx0 : x < 0) : mtU l y_Tl_record b_Tl_record 4 (some .int) RT D cy [.ref (ad 0), .int (x), .int (y)] ad (tlC cy ad tp tn false rw ln op bg w cp cb pt pn cn cg er rc re) (fun ad' => tlC cy ad' tp tn false rw ln op bg w cp cb pt pn cn cg er rc re) sa base xNE := by
  intro sz
  refine nx_ofW (cc := b_Tl_record) (maxL := 4) (ret := (some .int)) (own := R_Tl) (by decide) (Nat.le_of_ble_eq_true rfl) rfl ?_
  intro p e s m below meth c ls F hr hlk hex hv hl
  obtain ⟨hx, hb, hml, hown, hts⟩ := id F
  obtain ⟨rfl, ⟨hP, hK, hI⟩, hX, hlo⟩ := hv
  have hD : nd (na PT ad s.heap.size) PT ad := nd_self hI
  have hA : ∀ q, s.heap.size ≤ q → na PT ad s.heap.size q := fun q h => Or.inr h
  have hS : va_S (na PT ad s.heap.size) s.heap s.heap [] := va_S.rf
  have hl : lv_has ls 4 [(0, .ref (ad 0)), (1, .int (x)), (2, .int (y))] := hl
  refine lv_iload_n hx hb d_Tl_record_0 rfl (lv_at hl 2 rfl) ?_
  refine lv_iconst (v := nI 0) hx hb d_Tl_record_1 (by decide) ?_
  refine lv_iconst (v := nI 4) hx hb d_Tl_record_2 (by decide) ?_
  refine call_SN (As := [.int (y), .int (nI 0), .int (nI 4)]) (rest := []) F (c_Tl_refuseOutside0 l y (nI 0) (nI 4) h1 h2) km_Tl_42 kt_Tl_refuseOutside k0_Tl kc_Tl_refuseOutside kd_Tl_refuseOutside ⟨(Nat.le_of_ble_eq_true rfl), (Nat.le_of_ble_eq_true rfl)⟩ hl.1 rfl (Nat.le_of_ble_eq_true rfl) d_Tl_record_3 ⟨(Nat.le_of_ble_eq_true rfl), (Nat.le_of_ble_eq_true rfl)⟩ hS (fun H1 locs1 hN hS => ?_)
  have hP := hN _ _ _ _ hP
  generalize H1 = H at hP hS ⊢
  refine lv_aload_n hx hb d_Tl_record_6 rfl (lv_at hl 0 rfl) ?_
  refine call_N (As := []) (rest := []) F hK (c_Tl_refuseWhenDown0 l D cy ad tp rw pt cn er rc re cg tn ln bg cp cb pn false op w) km_Tl_29 ki_Tl_refuseWhenDown ks_Tl_refuseWhenDown k0_Tl kc_Tl_refuseWhenDown kd_Tl_refuseWhenDown ⟨(Nat.le_of_ble_eq_true rfl), (Nat.le_of_ble_eq_true rfl)⟩ (nw_recv hK.k hP (i := 0) (by decide) tl_0 rfl) (hP) (hI) hl.1 rfl (Nat.le_of_ble_eq_true rfl) d_Tl_record_7 ⟨(Nat.le_of_ble_eq_true rfl), (Nat.le_of_ble_eq_true rfl)⟩ hS (fun H1 locs1 hN hS => ?_)
  have hP := hN _ _ _ hP
  generalize H1 = H at hP hS ⊢
  refine lv_aload_n hx hb d_Tl_record_10 rfl (lv_at hl 0 rfl) ?_
  refine lv_iload_n hx hb d_Tl_record_11 rfl (lv_at hl 1 rfl) ?_
  exact esc_V (As := [.int (x)]) (rest := []) F hK hX (c_Tl_addressOf2 l D cy ad sa base hl0 tp rw pt cn er rc re cg tn ln bg cp cb pn false op w x hx0) km_Tl_108 ki_Tl_addressOf ks_Tl_addressOf k0_Tl kc_Tl_addressOf kd_Tl_addressOf ⟨(Nat.le_of_ble_eq_true rfl), (Nat.le_of_ble_eq_true rfl)⟩ (nw_recv hK.k hP (i := 0) (by decide) tl_0 rfl) (hP) (hI) (hlo) hl.1 rfl (Nat.le_of_ble_eq_true rfl) d_Tl_record_12 ⟨(Nat.le_of_ble_eq_true rfl), (Nat.le_of_ble_eq_true rfl)⟩ hS (na_lo hX hlo) hex hlk (fun t _ hz hk => fin_U hP (nxt_rf hD) hS hz hk) (fun _ h => h) (Nat.le_of_ble_eq_true rfl) (Nat.le_of_ble_eq_true rfl)
set_option maxRecDepth 100000 in
set_option maxHeartbeats 4000000 in
theorem c_Tl_record4 (l : Launch) (D : va_G) (cy : Nat → ClassId) (ad : Nat → Nat) (sa : Nat → Nat) (base : Nat) (hl0 : l.stackTraces = false) (tp rw pt cn er rc re : Nat → Nat) (cg : Nat → Nat → Nat) (tn ln bg cp cb pn : Nat) (dn op w : Bool) (i : Nat) (y : Int32) (h1 : ¬ y < nI 0) (h2 : ¬ nI 4 < y) (hi : i < 2 ^ 31) (HL : ln ≤ 24) (HR : ∀ i, i < ln → rw i < 24) (HC : ∀ b, b < 24 → cn b < 2 ^ 16) (HG : ∀ b, b < 24 → ∀ j, j < cn b → cg b j < 256) (HQ : ∀ b, b < 24 → rc b < 2 ^ 16 ∧ re b < 2 ^ 16) (HP : ∀ t, t < ln → ∀ q, q < rc (rw t) → pla (fB cn cg (rw t)) q < 2048) (hf : fdI cn cg rw (fdR rc rw ln 0 i) = -1) : mtU l y_Tl_record b_Tl_record 4 (some .int) RT D cy [.ref (ad 0), .int (nI i), .int (y)] ad (tlC cy ad tp tn false rw ln op bg w cp cb pt pn cn cg er rc re) (fun ad' => tlC cy ad' tp tn false rw ln op bg w cp cb pt pn cn cg er rc re) sa base xNE := by
  intro sz
  refine nx_ofW (cc := b_Tl_record) (maxL := 4) (ret := (some .int)) (own := R_Tl) (by decide) (Nat.le_of_ble_eq_true rfl) rfl ?_
  intro p e s m below meth c ls F hr hlk hex hv hl
  obtain ⟨hx, hb, hml, hown, hts⟩ := id F
  obtain ⟨rfl, ⟨hP, hK, hI⟩, hX, hlo⟩ := hv
  have hD : nd (na PT ad s.heap.size) PT ad := nd_self hI
  have hA : ∀ q, s.heap.size ≤ q → na PT ad s.heap.size q := fun q h => Or.inr h
  have hS : va_S (na PT ad s.heap.size) s.heap s.heap [] := va_S.rf
  have hl : lv_has ls 4 [(0, .ref (ad 0)), (1, .int (nI i)), (2, .int (y))] := hl
  refine lv_iload_n hx hb d_Tl_record_0 rfl (lv_at hl 2 rfl) ?_
  refine lv_iconst (v := nI 0) hx hb d_Tl_record_1 (by decide) ?_
  refine lv_iconst (v := nI 4) hx hb d_Tl_record_2 (by decide) ?_
  refine call_SN (As := [.int (y), .int (nI 0), .int (nI 4)]) (rest := []) F (c_Tl_refuseOutside0 l y (nI 0) (nI 4) h1 h2) km_Tl_42 kt_Tl_refuseOutside k0_Tl kc_Tl_refuseOutside kd_Tl_refuseOutside ⟨(Nat.le_of_ble_eq_true rfl), (Nat.le_of_ble_eq_true rfl)⟩ hl.1 rfl (Nat.le_of_ble_eq_true rfl) d_Tl_record_3 ⟨(Nat.le_of_ble_eq_true rfl), (Nat.le_of_ble_eq_true rfl)⟩ hS (fun H1 locs1 hN hS => ?_)
  have hP := hN _ _ _ _ hP
  generalize H1 = H at hP hS ⊢
  refine lv_aload_n hx hb d_Tl_record_6 rfl (lv_at hl 0 rfl) ?_
  refine call_N (As := []) (rest := []) F hK (c_Tl_refuseWhenDown0 l D cy ad tp rw pt cn er rc re cg tn ln bg cp cb pn false op w) km_Tl_29 ki_Tl_refuseWhenDown ks_Tl_refuseWhenDown k0_Tl kc_Tl_refuseWhenDown kd_Tl_refuseWhenDown ⟨(Nat.le_of_ble_eq_true rfl), (Nat.le_of_ble_eq_true rfl)⟩ (nw_recv hK.k hP (i := 0) (by decide) tl_0 rfl) (hP) (hI) hl.1 rfl (Nat.le_of_ble_eq_true rfl) d_Tl_record_7 ⟨(Nat.le_of_ble_eq_true rfl), (Nat.le_of_ble_eq_true rfl)⟩ hS (fun H1 locs1 hN hS => ?_)
  have hP := hN _ _ _ hP
  generalize H1 = H at hP hS ⊢
  refine lv_aload_n hx hb d_Tl_record_10 rfl (lv_at hl 0 rfl) ?_
  refine lv_iload_n hx hb d_Tl_record_11 rfl (lv_at hl 1 rfl) ?_
  exact esc_V (As := [.int (nI i)]) (rest := []) F hK hX (c_Tl_addressOf1 l D cy ad sa base hl0 tp rw pt cn er rc re cg tn ln bg cp cb pn false op w i hi HL HR HC HG HQ HP hf) km_Tl_108 ki_Tl_addressOf ks_Tl_addressOf k0_Tl kc_Tl_addressOf kd_Tl_addressOf ⟨(Nat.le_of_ble_eq_true rfl), (Nat.le_of_ble_eq_true rfl)⟩ (nw_recv hK.k hP (i := 0) (by decide) tl_0 rfl) (hP) (hI) (hlo) hl.1 rfl (Nat.le_of_ble_eq_true rfl) d_Tl_record_12 ⟨(Nat.le_of_ble_eq_true rfl), (Nat.le_of_ble_eq_true rfl)⟩ hS (na_lo hX hlo) hex hlk (fun t _ hz hk => fin_U hP (nxt_rf hD) hS hz hk) (fun _ h => h) (Nat.le_of_ble_eq_true rfl) (Nat.le_of_ble_eq_true rfl)
set_option maxRecDepth 100000 in
set_option maxHeartbeats 4000000 in
theorem c_Tl_record0_0 (l : Launch) (D : va_G) (cy : Nat → ClassId) (ad : Nat → Nat) (tp rw pt cn er rc re : Nat → Nat) (cg : Nat → Nat → Nat) (tn ln bg cp cb pn : Nat) (dn op w : Bool) (i : Nat) (hi : i < 2 ^ 31) (HL : ln ≤ 24) (HR : ∀ i, i < ln → rw i < 24) (HC : ∀ b, b < 24 → cn b < 2 ^ 16) (HG : ∀ b, b < 24 → ∀ j, j < cn b → cg b j < 256) (HQ : ∀ b, b < 24 → rc b < 2 ^ 16 ∧ re b < 2 ^ 16) (HP : ∀ t, t < ln → ∀ q, q < rc (rw t) → pla (fB cn cg (rw t)) q < 2048) (t o : Nat) (ht : t < ln) (ho : o + 9 ≤ 2048) (hf : fdI cn cg rw (fdR rc rw ln 0 i) = nI (t * 2048 + o)) : mtX l y_Tl_record b_Tl_record 4 (some .int) RT D cy [.ref (ad 0), .int (nI i), .int (nI 0)] ad (tlC cy ad tp tn false rw ln op bg w cp cb pt pn cn cg er rc re) (fun ad' => tlC cy ad' tp tn false rw ln op bg w cp cb pt pn cn cg er rc re) (nI (num (fB cn cg (rw t)) (o) 1)) := by
  intro sz
  refine nm_ofW (cc := b_Tl_record) (maxL := 4) (ret := (some .int)) (own := R_Tl) (by decide) (Nat.le_of_ble_eq_true rfl) rfl ?_
  intro p e s m below meth c ls F hr hlk hnm hv hl
  obtain ⟨hx, hb, hml, hown, hts⟩ := id F
  obtain ⟨rfl, hP, hK, hI⟩ := hv
  have hD : nd (na PT ad s.heap.size) PT ad := nd_self hI
  have hA : ∀ q, s.heap.size ≤ q → na PT ad s.heap.size q := fun q h => Or.inr h
  have hS : va_S (na PT ad s.heap.size) s.heap s.heap [] := va_S.rf
  have hl : lv_has ls 4 [(0, .ref (ad 0)), (1, .int (nI i)), (2, .int (nI 0))] := hl
  refine lv_iload_n hx hb d_Tl_record_0 rfl (lv_at hl 2 rfl) ?_
  refine lv_iconst (v := nI 0) hx hb d_Tl_record_1 (by decide) ?_
  refine lv_iconst (v := nI 4) hx hb d_Tl_record_2 (by decide) ?_
  refine call_SN (As := [.int (nI 0), .int (nI 0), .int (nI 4)]) (rest := []) F (c_Tl_refuseOutside0 l (nI 0) (nI 0) (nI 4) (by decide) (by decide)) km_Tl_42 kt_Tl_refuseOutside k0_Tl kc_Tl_refuseOutside kd_Tl_refuseOutside ⟨(Nat.le_of_ble_eq_true rfl), (Nat.le_of_ble_eq_true rfl)⟩ hl.1 rfl (Nat.le_of_ble_eq_true rfl) d_Tl_record_3 ⟨(Nat.le_of_ble_eq_true rfl), (Nat.le_of_ble_eq_true rfl)⟩ hS (fun H1 locs1 hN hS => ?_)
  have hP := hN _ _ _ _ hP
  generalize H1 = H at hP hS ⊢
  refine lv_aload_n hx hb d_Tl_record_6 rfl (lv_at hl 0 rfl) ?_
  refine call_N (As := []) (rest := []) F hK (c_Tl_refuseWhenDown0 l D cy ad tp rw pt cn er rc re cg tn ln bg cp cb pn false op w) km_Tl_29 ki_Tl_refuseWhenDown ks_Tl_refuseWhenDown k0_Tl kc_Tl_refuseWhenDown kd_Tl_refuseWhenDown ⟨(Nat.le_of_ble_eq_true rfl), (Nat.le_of_ble_eq_true rfl)⟩ (nw_recv hK.k hP (i := 0) (by decide) tl_0 rfl) (hP) (hI) hl.1 rfl (Nat.le_of_ble_eq_true rfl) d_Tl_record_7 ⟨(Nat.le_of_ble_eq_true rfl), (Nat.le_of_ble_eq_true rfl)⟩ hS (fun H1 locs1 hN hS => ?_)
  have hP := hN _ _ _ hP
  generalize H1 = H at hP hS ⊢
  refine lv_aload_n hx hb d_Tl_record_10 rfl (lv_at hl 0 rfl) ?_
  refine lv_iload_n hx hb d_Tl_record_11 rfl (lv_at hl 1 rfl) ?_
  refine call_R (As := [.int (nI i)]) (rest := []) F hK (c_Tl_addressOf0 l D cy ad tp rw pt cn er rc re cg tn ln bg cp cb pn false op w i (t * 2048 + o) hi HL HR HC HG HQ HP (by omega) hf) km_Tl_108 ki_Tl_addressOf ks_Tl_addressOf k0_Tl kc_Tl_addressOf kd_Tl_addressOf ⟨Nat.le_of_ble_eq_true rfl, Nat.le_of_ble_eq_true rfl⟩ (nw_recv hK.k hP (i := 0) (by decide) tl_0 rfl) (hP) (hI) hl.1 rfl (Nat.le_of_ble_eq_true rfl) d_Tl_record_12 ⟨(Nat.le_of_ble_eq_true rfl), (Nat.le_of_ble_eq_true rfl)⟩ hS (fun H1 locs1 hN hS => ?_)
  have hP := hN _ _ _ hP
  generalize H1 = H at hP hS ⊢
  refine lv_istore_n (lv' := [(3, .int (nI (t * 2048 + o))), (0, .ref (ad 0)), (1, .int (nI i)), (2, .int (nI 0))]) hx hb d_Tl_record_15 rfl hl (by decide) rfl (fun ls hl => ?_)
  refine lv_iload_n hx hb d_Tl_record_16 rfl (lv_at hl 3 rfl) ?_
  refine lv_tableIn (tgt := 48) (off := 31) hx hb d_Tl_record_17 (by decide) (by decide) (by decide) (by decide) ?_
  refine lv_aload_n hx hb d_Tl_record_48 rfl (lv_at hl 1 rfl) ?_
  refine nw_get (D := D) (ci := 4) (C := R_Tl) (T := T_Tl) (N := 3) hx hb hts in_Tl hown hK.k hP (i := 0) (by decide) tl_0 rfl 1 (by decide) (hts _ kf_Tl_21) rfl d_Tl_record_49 ?_
  refine lv_iload_n hx hb d_Tl_record_52 rfl (lv_at hl 0 rfl) ?_
  refine lv_iconst (v := nI 1) hx hb d_Tl_record_53 (by decide) ?_
  refine call_R (As := [.int (nI (t * 2048 + o)), .int (nI 1)]) (rest := []) F hK (c_Lg_numberAt l D cy ad (t * 2048 + o) 1 t (o) tp rw pt cn er rc re cg tn ln bg cp cb pn false op w HL HR HC HG ht (by omega) (by omega) (by omega)) km_Tl_112 ki_Lg_number ks_Lg_number k0_Lg kc_Lg_number kd_Lg_number ⟨Nat.le_of_ble_eq_true rfl, Nat.le_of_ble_eq_true rfl⟩ (nw_recv hK.k hP (i := 3) (by decide) tl_3 rfl) (hP) (hI) hl.1 rfl (Nat.le_of_ble_eq_true rfl) d_Tl_record_54 ⟨(Nat.le_of_ble_eq_true rfl), (Nat.le_of_ble_eq_true rfl)⟩ hS (fun H1 locs1 hN hS => ?_)
  have hP := hN _ _ _ hP
  generalize H1 = H at hP hS ⊢
  refine W.widen (k := 2) (n := 2054) (Nat.le_of_ble_eq_true rfl) (Nat.le_of_ble_eq_true rfl) ?_
  exact W.zret hx hb hr rfl (fun t ht hW => ⟨⟨_, ad, rfl, ⟨rfl, nxt_rf hD⟩, by show nw _ _ _ _ _ t.heap; rw [ht]; exact hP⟩, hS.F ht⟩) hS.2.2 d_Tl_record_57 hlk
set_option maxRecDepth 100000 in
set_option maxHeartbeats 4000000 in
theorem c_Tl_record0_1 (l : Launch) (D : va_G) (cy : Nat → ClassId) (ad : Nat → Nat) (tp rw pt cn er rc re : Nat → Nat) (cg : Nat → Nat → Nat) (tn ln bg cp cb pn : Nat) (dn op w : Bool) (i : Nat) (hi : i < 2 ^ 31) (HL : ln ≤ 24) (HR : ∀ i, i < ln → rw i < 24) (HC : ∀ b, b < 24 → cn b < 2 ^ 16) (HG : ∀ b, b < 24 → ∀ j, j < cn b → cg b j < 256) (HQ : ∀ b, b < 24 → rc b < 2 ^ 16 ∧ re b < 2 ^ 16) (HP : ∀ t, t < ln → ∀ q, q < rc (rw t) → pla (fB cn cg (rw t)) q < 2048) (t o : Nat) (ht : t < ln) (ho : o + 9 ≤ 2048) (hf : fdI cn cg rw (fdR rc rw ln 0 i) = nI (t * 2048 + o)) : mtX l y_Tl_record b_Tl_record 4 (some .int) RT D cy [.ref (ad 0), .int (nI i), .int (nI 1)] ad (tlC cy ad tp tn false rw ln op bg w cp cb pt pn cn cg er rc re) (fun ad' => tlC cy ad' tp tn false rw ln op bg w cp cb pt pn cn cg er rc re) (nI (num (fB cn cg (rw t)) (o + 1) 4)) := by
  intro sz
  refine nm_ofW (cc := b_Tl_record) (maxL := 4) (ret := (some .int)) (own := R_Tl) (by decide) (Nat.le_of_ble_eq_true rfl) rfl ?_
  intro p e s m below meth c ls F hr hlk hnm hv hl
  obtain ⟨hx, hb, hml, hown, hts⟩ := id F
  obtain ⟨rfl, hP, hK, hI⟩ := hv
  have hD : nd (na PT ad s.heap.size) PT ad := nd_self hI
  have hA : ∀ q, s.heap.size ≤ q → na PT ad s.heap.size q := fun q h => Or.inr h
  have hS : va_S (na PT ad s.heap.size) s.heap s.heap [] := va_S.rf
  have hl : lv_has ls 4 [(0, .ref (ad 0)), (1, .int (nI i)), (2, .int (nI 1))] := hl
  refine lv_iload_n hx hb d_Tl_record_0 rfl (lv_at hl 2 rfl) ?_
  refine lv_iconst (v := nI 0) hx hb d_Tl_record_1 (by decide) ?_
  refine lv_iconst (v := nI 4) hx hb d_Tl_record_2 (by decide) ?_
  refine call_SN (As := [.int (nI 1), .int (nI 0), .int (nI 4)]) (rest := []) F (c_Tl_refuseOutside0 l (nI 1) (nI 0) (nI 4) (by decide) (by decide)) km_Tl_42 kt_Tl_refuseOutside k0_Tl kc_Tl_refuseOutside kd_Tl_refuseOutside ⟨(Nat.le_of_ble_eq_true rfl), (Nat.le_of_ble_eq_true rfl)⟩ hl.1 rfl (Nat.le_of_ble_eq_true rfl) d_Tl_record_3 ⟨(Nat.le_of_ble_eq_true rfl), (Nat.le_of_ble_eq_true rfl)⟩ hS (fun H1 locs1 hN hS => ?_)
  have hP := hN _ _ _ _ hP
  generalize H1 = H at hP hS ⊢
  refine lv_aload_n hx hb d_Tl_record_6 rfl (lv_at hl 0 rfl) ?_
  refine call_N (As := []) (rest := []) F hK (c_Tl_refuseWhenDown0 l D cy ad tp rw pt cn er rc re cg tn ln bg cp cb pn false op w) km_Tl_29 ki_Tl_refuseWhenDown ks_Tl_refuseWhenDown k0_Tl kc_Tl_refuseWhenDown kd_Tl_refuseWhenDown ⟨(Nat.le_of_ble_eq_true rfl), (Nat.le_of_ble_eq_true rfl)⟩ (nw_recv hK.k hP (i := 0) (by decide) tl_0 rfl) (hP) (hI) hl.1 rfl (Nat.le_of_ble_eq_true rfl) d_Tl_record_7 ⟨(Nat.le_of_ble_eq_true rfl), (Nat.le_of_ble_eq_true rfl)⟩ hS (fun H1 locs1 hN hS => ?_)
  have hP := hN _ _ _ hP
  generalize H1 = H at hP hS ⊢
  refine lv_aload_n hx hb d_Tl_record_10 rfl (lv_at hl 0 rfl) ?_
  refine lv_iload_n hx hb d_Tl_record_11 rfl (lv_at hl 1 rfl) ?_
  refine call_R (As := [.int (nI i)]) (rest := []) F hK (c_Tl_addressOf0 l D cy ad tp rw pt cn er rc re cg tn ln bg cp cb pn false op w i (t * 2048 + o) hi HL HR HC HG HQ HP (by omega) hf) km_Tl_108 ki_Tl_addressOf ks_Tl_addressOf k0_Tl kc_Tl_addressOf kd_Tl_addressOf ⟨Nat.le_of_ble_eq_true rfl, Nat.le_of_ble_eq_true rfl⟩ (nw_recv hK.k hP (i := 0) (by decide) tl_0 rfl) (hP) (hI) hl.1 rfl (Nat.le_of_ble_eq_true rfl) d_Tl_record_12 ⟨(Nat.le_of_ble_eq_true rfl), (Nat.le_of_ble_eq_true rfl)⟩ hS (fun H1 locs1 hN hS => ?_)
  have hP := hN _ _ _ hP
  generalize H1 = H at hP hS ⊢
  refine lv_istore_n (lv' := [(3, .int (nI (t * 2048 + o))), (0, .ref (ad 0)), (1, .int (nI i)), (2, .int (nI 1))]) hx hb d_Tl_record_15 rfl hl (by decide) rfl (fun ls hl => ?_)
  refine lv_iload_n hx hb d_Tl_record_16 rfl (lv_at hl 3 rfl) ?_
  refine lv_tableIn (tgt := 58) (off := 41) hx hb d_Tl_record_17 (by decide) (by decide) (by decide) (by decide) ?_
  refine lv_aload_n hx hb d_Tl_record_58 rfl (lv_at hl 1 rfl) ?_
  refine nw_get (D := D) (ci := 4) (C := R_Tl) (T := T_Tl) (N := 3) hx hb hts in_Tl hown hK.k hP (i := 0) (by decide) tl_0 rfl 1 (by decide) (hts _ kf_Tl_21) rfl d_Tl_record_59 ?_
  refine lv_iload_n hx hb d_Tl_record_62 rfl (lv_at hl 0 rfl) ?_
  refine lv_iconst (v := nI 1) hx hb d_Tl_record_63 (by decide) ?_
  refine lv_iadd hx hb d_Tl_record_64 ?_
  refine lv_eqi (nI_add _ _) ?_
  refine lv_iconst (v := nI 4) hx hb d_Tl_record_65 (by decide) ?_
  refine call_R (As := [.int (nI (t * 2048 + o + 1)), .int (nI 4)]) (rest := []) F hK (c_Lg_numberAt l D cy ad (t * 2048 + o + 1) 4 t (o + 1) tp rw pt cn er rc re cg tn ln bg cp cb pn false op w HL HR HC HG ht (by omega) (by omega) (by omega)) km_Tl_112 ki_Lg_number ks_Lg_number k0_Lg kc_Lg_number kd_Lg_number ⟨Nat.le_of_ble_eq_true rfl, Nat.le_of_ble_eq_true rfl⟩ (nw_recv hK.k hP (i := 3) (by decide) tl_3 rfl) (hP) (hI) hl.1 rfl (Nat.le_of_ble_eq_true rfl) d_Tl_record_66 ⟨(Nat.le_of_ble_eq_true rfl), (Nat.le_of_ble_eq_true rfl)⟩ hS (fun H1 locs1 hN hS => ?_)
  have hP := hN _ _ _ hP
  generalize H1 = H at hP hS ⊢
  refine W.widen (k := 2) (n := 2054) (Nat.le_of_ble_eq_true rfl) (Nat.le_of_ble_eq_true rfl) ?_
  exact W.zret hx hb hr rfl (fun t ht hW => ⟨⟨_, ad, rfl, ⟨rfl, nxt_rf hD⟩, by show nw _ _ _ _ _ t.heap; rw [ht]; exact hP⟩, hS.F ht⟩) hS.2.2 d_Tl_record_69 hlk
set_option maxRecDepth 100000 in
set_option maxHeartbeats 4000000 in
theorem c_Tl_record0_2 (l : Launch) (D : va_G) (cy : Nat → ClassId) (ad : Nat → Nat) (tp rw pt cn er rc re : Nat → Nat) (cg : Nat → Nat → Nat) (tn ln bg cp cb pn : Nat) (dn op w : Bool) (i : Nat) (hi : i < 2 ^ 31) (HL : ln ≤ 24) (HR : ∀ i, i < ln → rw i < 24) (HC : ∀ b, b < 24 → cn b < 2 ^ 16) (HG : ∀ b, b < 24 → ∀ j, j < cn b → cg b j < 256) (HQ : ∀ b, b < 24 → rc b < 2 ^ 16 ∧ re b < 2 ^ 16) (HP : ∀ t, t < ln → ∀ q, q < rc (rw t) → pla (fB cn cg (rw t)) q < 2048) (t o : Nat) (ht : t < ln) (ho : o + 9 ≤ 2048) (hf : fdI cn cg rw (fdR rc rw ln 0 i) = nI (t * 2048 + o)) : mtX l y_Tl_record b_Tl_record 4 (some .int) RT D cy [.ref (ad 0), .int (nI i), .int (nI 2)] ad (tlC cy ad tp tn false rw ln op bg w cp cb pt pn cn cg er rc re) (fun ad' => tlC cy ad' tp tn false rw ln op bg w cp cb pt pn cn cg er rc re) (nI (num (fB cn cg (rw t)) (o + 5) 1)) := by
  intro sz
  refine nm_ofW (cc := b_Tl_record) (maxL := 4) (ret := (some .int)) (own := R_Tl) (by decide) (Nat.le_of_ble_eq_true rfl) rfl ?_
  intro p e s m below meth c ls F hr hlk hnm hv hl
  obtain ⟨hx, hb, hml, hown, hts⟩ := id F
  obtain ⟨rfl, hP, hK, hI⟩ := hv
  have hD : nd (na PT ad s.heap.size) PT ad := nd_self hI
  have hA : ∀ q, s.heap.size ≤ q → na PT ad s.heap.size q := fun q h => Or.inr h
  have hS : va_S (na PT ad s.heap.size) s.heap s.heap [] := va_S.rf
  have hl : lv_has ls 4 [(0, .ref (ad 0)), (1, .int (nI i)), (2, .int (nI 2))] := hl
  refine lv_iload_n hx hb d_Tl_record_0 rfl (lv_at hl 2 rfl) ?_
  refine lv_iconst (v := nI 0) hx hb d_Tl_record_1 (by decide) ?_
  refine lv_iconst (v := nI 4) hx hb d_Tl_record_2 (by decide) ?_
  refine call_SN (As := [.int (nI 2), .int (nI 0), .int (nI 4)]) (rest := []) F (c_Tl_refuseOutside0 l (nI 2) (nI 0) (nI 4) (by decide) (by decide)) km_Tl_42 kt_Tl_refuseOutside k0_Tl kc_Tl_refuseOutside kd_Tl_refuseOutside ⟨(Nat.le_of_ble_eq_true rfl), (Nat.le_of_ble_eq_true rfl)⟩ hl.1 rfl (Nat.le_of_ble_eq_true rfl) d_Tl_record_3 ⟨(Nat.le_of_ble_eq_true rfl), (Nat.le_of_ble_eq_true rfl)⟩ hS (fun H1 locs1 hN hS => ?_)
  have hP := hN _ _ _ _ hP
  generalize H1 = H at hP hS ⊢
  refine lv_aload_n hx hb d_Tl_record_6 rfl (lv_at hl 0 rfl) ?_
  refine call_N (As := []) (rest := []) F hK (c_Tl_refuseWhenDown0 l D cy ad tp rw pt cn er rc re cg tn ln bg cp cb pn false op w) km_Tl_29 ki_Tl_refuseWhenDown ks_Tl_refuseWhenDown k0_Tl kc_Tl_refuseWhenDown kd_Tl_refuseWhenDown ⟨(Nat.le_of_ble_eq_true rfl), (Nat.le_of_ble_eq_true rfl)⟩ (nw_recv hK.k hP (i := 0) (by decide) tl_0 rfl) (hP) (hI) hl.1 rfl (Nat.le_of_ble_eq_true rfl) d_Tl_record_7 ⟨(Nat.le_of_ble_eq_true rfl), (Nat.le_of_ble_eq_true rfl)⟩ hS (fun H1 locs1 hN hS => ?_)
  have hP := hN _ _ _ hP
  generalize H1 = H at hP hS ⊢
  refine lv_aload_n hx hb d_Tl_record_10 rfl (lv_at hl 0 rfl) ?_
  refine lv_iload_n hx hb d_Tl_record_11 rfl (lv_at hl 1 rfl) ?_
  refine call_R (As := [.int (nI i)]) (rest := []) F hK (c_Tl_addressOf0 l D cy ad tp rw pt cn er rc re cg tn ln bg cp cb pn false op w i (t * 2048 + o) hi HL HR HC HG HQ HP (by omega) hf) km_Tl_108 ki_Tl_addressOf ks_Tl_addressOf k0_Tl kc_Tl_addressOf kd_Tl_addressOf ⟨Nat.le_of_ble_eq_true rfl, Nat.le_of_ble_eq_true rfl⟩ (nw_recv hK.k hP (i := 0) (by decide) tl_0 rfl) (hP) (hI) hl.1 rfl (Nat.le_of_ble_eq_true rfl) d_Tl_record_12 ⟨(Nat.le_of_ble_eq_true rfl), (Nat.le_of_ble_eq_true rfl)⟩ hS (fun H1 locs1 hN hS => ?_)
  have hP := hN _ _ _ hP
  generalize H1 = H at hP hS ⊢
  refine lv_istore_n (lv' := [(3, .int (nI (t * 2048 + o))), (0, .ref (ad 0)), (1, .int (nI i)), (2, .int (nI 2))]) hx hb d_Tl_record_15 rfl hl (by decide) rfl (fun ls hl => ?_)
  refine lv_iload_n hx hb d_Tl_record_16 rfl (lv_at hl 3 rfl) ?_
  refine lv_tableIn (tgt := 70) (off := 53) hx hb d_Tl_record_17 (by decide) (by decide) (by decide) (by decide) ?_
  refine lv_aload_n hx hb d_Tl_record_70 rfl (lv_at hl 1 rfl) ?_
  refine nw_get (D := D) (ci := 4) (C := R_Tl) (T := T_Tl) (N := 3) hx hb hts in_Tl hown hK.k hP (i := 0) (by decide) tl_0 rfl 1 (by decide) (hts _ kf_Tl_21) rfl d_Tl_record_71 ?_
  refine lv_iload_n hx hb d_Tl_record_74 rfl (lv_at hl 0 rfl) ?_
  refine lv_iconst (v := nI 5) hx hb d_Tl_record_75 (by decide) ?_
  refine lv_iadd hx hb d_Tl_record_76 ?_
  refine lv_eqi (nI_add _ _) ?_
  refine lv_iconst (v := nI 1) hx hb d_Tl_record_77 (by decide) ?_
  refine call_R (As := [.int (nI (t * 2048 + o + 5)), .int (nI 1)]) (rest := []) F hK (c_Lg_numberAt l D cy ad (t * 2048 + o + 5) 1 t (o + 5) tp rw pt cn er rc re cg tn ln bg cp cb pn false op w HL HR HC HG ht (by omega) (by omega) (by omega)) km_Tl_112 ki_Lg_number ks_Lg_number k0_Lg kc_Lg_number kd_Lg_number ⟨Nat.le_of_ble_eq_true rfl, Nat.le_of_ble_eq_true rfl⟩ (nw_recv hK.k hP (i := 3) (by decide) tl_3 rfl) (hP) (hI) hl.1 rfl (Nat.le_of_ble_eq_true rfl) d_Tl_record_78 ⟨(Nat.le_of_ble_eq_true rfl), (Nat.le_of_ble_eq_true rfl)⟩ hS (fun H1 locs1 hN hS => ?_)
  have hP := hN _ _ _ hP
  generalize H1 = H at hP hS ⊢
  refine W.widen (k := 2) (n := 2054) (Nat.le_of_ble_eq_true rfl) (Nat.le_of_ble_eq_true rfl) ?_
  exact W.zret hx hb hr rfl (fun t ht hW => ⟨⟨_, ad, rfl, ⟨rfl, nxt_rf hD⟩, by show nw _ _ _ _ _ t.heap; rw [ht]; exact hP⟩, hS.F ht⟩) hS.2.2 d_Tl_record_81 hlk
set_option maxRecDepth 100000 in
set_option maxHeartbeats 4000000 in
theorem c_Tl_record0_3 (l : Launch) (D : va_G) (cy : Nat → ClassId) (ad : Nat → Nat) (tp rw pt cn er rc re : Nat → Nat) (cg : Nat → Nat → Nat) (tn ln bg cp cb pn : Nat) (dn op w : Bool) (i : Nat) (hi : i < 2 ^ 31) (HL : ln ≤ 24) (HR : ∀ i, i < ln → rw i < 24) (HC : ∀ b, b < 24 → cn b < 2 ^ 16) (HG : ∀ b, b < 24 → ∀ j, j < cn b → cg b j < 256) (HQ : ∀ b, b < 24 → rc b < 2 ^ 16 ∧ re b < 2 ^ 16) (HP : ∀ t, t < ln → ∀ q, q < rc (rw t) → pla (fB cn cg (rw t)) q < 2048) (t o : Nat) (ht : t < ln) (ho : o + 9 ≤ 2048) (hf : fdI cn cg rw (fdR rc rw ln 0 i) = nI (t * 2048 + o)) : mtX l y_Tl_record b_Tl_record 4 (some .int) RT D cy [.ref (ad 0), .int (nI i), .int (nI 3)] ad (tlC cy ad tp tn false rw ln op bg w cp cb pt pn cn cg er rc re) (fun ad' => tlC cy ad' tp tn false rw ln op bg w cp cb pt pn cn cg er rc re) (nI (num (fB cn cg (rw t)) (o + 6) 2)) := by
  intro sz
  refine nm_ofW (cc := b_Tl_record) (maxL := 4) (ret := (some .int)) (own := R_Tl) (by decide) (Nat.le_of_ble_eq_true rfl) rfl ?_
  intro p e s m below meth c ls F hr hlk hnm hv hl
  obtain ⟨hx, hb, hml, hown, hts⟩ := id F
  obtain ⟨rfl, hP, hK, hI⟩ := hv
  have hD : nd (na PT ad s.heap.size) PT ad := nd_self hI
  have hA : ∀ q, s.heap.size ≤ q → na PT ad s.heap.size q := fun q h => Or.inr h
  have hS : va_S (na PT ad s.heap.size) s.heap s.heap [] := va_S.rf
  have hl : lv_has ls 4 [(0, .ref (ad 0)), (1, .int (nI i)), (2, .int (nI 3))] := hl
  refine lv_iload_n hx hb d_Tl_record_0 rfl (lv_at hl 2 rfl) ?_
  refine lv_iconst (v := nI 0) hx hb d_Tl_record_1 (by decide) ?_
  refine lv_iconst (v := nI 4) hx hb d_Tl_record_2 (by decide) ?_
  refine call_SN (As := [.int (nI 3), .int (nI 0), .int (nI 4)]) (rest := []) F (c_Tl_refuseOutside0 l (nI 3) (nI 0) (nI 4) (by decide) (by decide)) km_Tl_42 kt_Tl_refuseOutside k0_Tl kc_Tl_refuseOutside kd_Tl_refuseOutside ⟨(Nat.le_of_ble_eq_true rfl), (Nat.le_of_ble_eq_true rfl)⟩ hl.1 rfl (Nat.le_of_ble_eq_true rfl) d_Tl_record_3 ⟨(Nat.le_of_ble_eq_true rfl), (Nat.le_of_ble_eq_true rfl)⟩ hS (fun H1 locs1 hN hS => ?_)
  have hP := hN _ _ _ _ hP
  generalize H1 = H at hP hS ⊢
  refine lv_aload_n hx hb d_Tl_record_6 rfl (lv_at hl 0 rfl) ?_
  refine call_N (As := []) (rest := []) F hK (c_Tl_refuseWhenDown0 l D cy ad tp rw pt cn er rc re cg tn ln bg cp cb pn false op w) km_Tl_29 ki_Tl_refuseWhenDown ks_Tl_refuseWhenDown k0_Tl kc_Tl_refuseWhenDown kd_Tl_refuseWhenDown ⟨(Nat.le_of_ble_eq_true rfl), (Nat.le_of_ble_eq_true rfl)⟩ (nw_recv hK.k hP (i := 0) (by decide) tl_0 rfl) (hP) (hI) hl.1 rfl (Nat.le_of_ble_eq_true rfl) d_Tl_record_7 ⟨(Nat.le_of_ble_eq_true rfl), (Nat.le_of_ble_eq_true rfl)⟩ hS (fun H1 locs1 hN hS => ?_)
  have hP := hN _ _ _ hP
  generalize H1 = H at hP hS ⊢
  refine lv_aload_n hx hb d_Tl_record_10 rfl (lv_at hl 0 rfl) ?_
  refine lv_iload_n hx hb d_Tl_record_11 rfl (lv_at hl 1 rfl) ?_
  refine call_R (As := [.int (nI i)]) (rest := []) F hK (c_Tl_addressOf0 l D cy ad tp rw pt cn er rc re cg tn ln bg cp cb pn false op w i (t * 2048 + o) hi HL HR HC HG HQ HP (by omega) hf) km_Tl_108 ki_Tl_addressOf ks_Tl_addressOf k0_Tl kc_Tl_addressOf kd_Tl_addressOf ⟨Nat.le_of_ble_eq_true rfl, Nat.le_of_ble_eq_true rfl⟩ (nw_recv hK.k hP (i := 0) (by decide) tl_0 rfl) (hP) (hI) hl.1 rfl (Nat.le_of_ble_eq_true rfl) d_Tl_record_12 ⟨(Nat.le_of_ble_eq_true rfl), (Nat.le_of_ble_eq_true rfl)⟩ hS (fun H1 locs1 hN hS => ?_)
  have hP := hN _ _ _ hP
  generalize H1 = H at hP hS ⊢
  refine lv_istore_n (lv' := [(3, .int (nI (t * 2048 + o))), (0, .ref (ad 0)), (1, .int (nI i)), (2, .int (nI 3))]) hx hb d_Tl_record_15 rfl hl (by decide) rfl (fun ls hl => ?_)
  refine lv_iload_n hx hb d_Tl_record_16 rfl (lv_at hl 3 rfl) ?_
  refine lv_tableIn (tgt := 82) (off := 65) hx hb d_Tl_record_17 (by decide) (by decide) (by decide) (by decide) ?_
  refine lv_aload_n hx hb d_Tl_record_82 rfl (lv_at hl 1 rfl) ?_
  refine nw_get (D := D) (ci := 4) (C := R_Tl) (T := T_Tl) (N := 3) hx hb hts in_Tl hown hK.k hP (i := 0) (by decide) tl_0 rfl 1 (by decide) (hts _ kf_Tl_21) rfl d_Tl_record_83 ?_
  refine lv_iload_n hx hb d_Tl_record_86 rfl (lv_at hl 0 rfl) ?_
  refine lv_bipush (v := nI 6) hx hb d_Tl_record_87 (by decide) ?_
  refine lv_iadd hx hb d_Tl_record_89 ?_
  refine lv_eqi (nI_add _ _) ?_
  refine lv_iconst (v := nI 2) hx hb d_Tl_record_90 (by decide) ?_
  refine call_R (As := [.int (nI (t * 2048 + o + 6)), .int (nI 2)]) (rest := []) F hK (c_Lg_numberAt l D cy ad (t * 2048 + o + 6) 2 t (o + 6) tp rw pt cn er rc re cg tn ln bg cp cb pn false op w HL HR HC HG ht (by omega) (by omega) (by omega)) km_Tl_112 ki_Lg_number ks_Lg_number k0_Lg kc_Lg_number kd_Lg_number ⟨Nat.le_of_ble_eq_true rfl, Nat.le_of_ble_eq_true rfl⟩ (nw_recv hK.k hP (i := 3) (by decide) tl_3 rfl) (hP) (hI) hl.1 rfl (Nat.le_of_ble_eq_true rfl) d_Tl_record_91 ⟨(Nat.le_of_ble_eq_true rfl), (Nat.le_of_ble_eq_true rfl)⟩ hS (fun H1 locs1 hN hS => ?_)
  have hP := hN _ _ _ hP
  generalize H1 = H at hP hS ⊢
  refine W.widen (k := 2) (n := 2054) (Nat.le_of_ble_eq_true rfl) (Nat.le_of_ble_eq_true rfl) ?_
  exact W.zret hx hb hr rfl (fun t ht hW => ⟨⟨_, ad, rfl, ⟨rfl, nxt_rf hD⟩, by show nw _ _ _ _ _ t.heap; rw [ht]; exact hP⟩, hS.F ht⟩) hS.2.2 d_Tl_record_94 hlk
set_option maxRecDepth 100000 in
set_option maxHeartbeats 4000000 in
theorem c_Tl_record0_4 (l : Launch) (D : va_G) (cy : Nat → ClassId) (ad : Nat → Nat) (tp rw pt cn er rc re : Nat → Nat) (cg : Nat → Nat → Nat) (tn ln bg cp cb pn : Nat) (dn op w : Bool) (i : Nat) (hi : i < 2 ^ 31) (HL : ln ≤ 24) (HR : ∀ i, i < ln → rw i < 24) (HC : ∀ b, b < 24 → cn b < 2 ^ 16) (HG : ∀ b, b < 24 → ∀ j, j < cn b → cg b j < 256) (HQ : ∀ b, b < 24 → rc b < 2 ^ 16 ∧ re b < 2 ^ 16) (HP : ∀ t, t < ln → ∀ q, q < rc (rw t) → pla (fB cn cg (rw t)) q < 2048) (t o : Nat) (ht : t < ln) (ho : o + 9 ≤ 2048) (hf : fdI cn cg rw (fdR rc rw ln 0 i) = nI (t * 2048 + o)) : mtX l y_Tl_record b_Tl_record 4 (some .int) RT D cy [.ref (ad 0), .int (nI i), .int (nI 4)] ad (tlC cy ad tp tn false rw ln op bg w cp cb pt pn cn cg er rc re) (fun ad' => tlC cy ad' tp tn false rw ln op bg w cp cb pt pn cn cg er rc re) (nI (t)) := by
  intro sz
  refine nm_ofW (cc := b_Tl_record) (maxL := 4) (ret := (some .int)) (own := R_Tl) (by decide) (Nat.le_of_ble_eq_true rfl) rfl ?_
  intro p e s m below meth c ls F hr hlk hnm hv hl
  obtain ⟨hx, hb, hml, hown, hts⟩ := id F
  obtain ⟨rfl, hP, hK, hI⟩ := hv
  have hD : nd (na PT ad s.heap.size) PT ad := nd_self hI
  have hA : ∀ q, s.heap.size ≤ q → na PT ad s.heap.size q := fun q h => Or.inr h
  have hS : va_S (na PT ad s.heap.size) s.heap s.heap [] := va_S.rf
  have hl : lv_has ls 4 [(0, .ref (ad 0)), (1, .int (nI i)), (2, .int (nI 4))] := hl
  refine lv_iload_n hx hb d_Tl_record_0 rfl (lv_at hl 2 rfl) ?_
  refine lv_iconst (v := nI 0) hx hb d_Tl_record_1 (by decide) ?_
  refine lv_iconst (v := nI 4) hx hb d_Tl_record_2 (by decide) ?_
  refine call_SN (As := [.int (nI 4), .int (nI 0), .int (nI 4)]) (rest := []) F (c_Tl_refuseOutside0 l (nI 4) (nI 0) (nI 4) (by decide) (by decide)) km_Tl_42 kt_Tl_refuseOutside k0_Tl kc_Tl_refuseOutside kd_Tl_refuseOutside ⟨(Nat.le_of_ble_eq_true rfl), (Nat.le_of_ble_eq_true rfl)⟩ hl.1 rfl (Nat.le_of_ble_eq_true rfl) d_Tl_record_3 ⟨(Nat.le_of_ble_eq_true rfl), (Nat.le_of_ble_eq_true rfl)⟩ hS (fun H1 locs1 hN hS => ?_)
  have hP := hN _ _ _ _ hP
  generalize H1 = H at hP hS ⊢
  refine lv_aload_n hx hb d_Tl_record_6 rfl (lv_at hl 0 rfl) ?_
  refine call_N (As := []) (rest := []) F hK (c_Tl_refuseWhenDown0 l D cy ad tp rw pt cn er rc re cg tn ln bg cp cb pn false op w) km_Tl_29 ki_Tl_refuseWhenDown ks_Tl_refuseWhenDown k0_Tl kc_Tl_refuseWhenDown kd_Tl_refuseWhenDown ⟨(Nat.le_of_ble_eq_true rfl), (Nat.le_of_ble_eq_true rfl)⟩ (nw_recv hK.k hP (i := 0) (by decide) tl_0 rfl) (hP) (hI) hl.1 rfl (Nat.le_of_ble_eq_true rfl) d_Tl_record_7 ⟨(Nat.le_of_ble_eq_true rfl), (Nat.le_of_ble_eq_true rfl)⟩ hS (fun H1 locs1 hN hS => ?_)
  have hP := hN _ _ _ hP
  generalize H1 = H at hP hS ⊢
  refine lv_aload_n hx hb d_Tl_record_10 rfl (lv_at hl 0 rfl) ?_
  refine lv_iload_n hx hb d_Tl_record_11 rfl (lv_at hl 1 rfl) ?_
  refine call_R (As := [.int (nI i)]) (rest := []) F hK (c_Tl_addressOf0 l D cy ad tp rw pt cn er rc re cg tn ln bg cp cb pn false op w i (t * 2048 + o) hi HL HR HC HG HQ HP (by omega) hf) km_Tl_108 ki_Tl_addressOf ks_Tl_addressOf k0_Tl kc_Tl_addressOf kd_Tl_addressOf ⟨Nat.le_of_ble_eq_true rfl, Nat.le_of_ble_eq_true rfl⟩ (nw_recv hK.k hP (i := 0) (by decide) tl_0 rfl) (hP) (hI) hl.1 rfl (Nat.le_of_ble_eq_true rfl) d_Tl_record_12 ⟨(Nat.le_of_ble_eq_true rfl), (Nat.le_of_ble_eq_true rfl)⟩ hS (fun H1 locs1 hN hS => ?_)
  have hP := hN _ _ _ hP
  generalize H1 = H at hP hS ⊢
  refine lv_istore_n (lv' := [(3, .int (nI (t * 2048 + o))), (0, .ref (ad 0)), (1, .int (nI i)), (2, .int (nI 4))]) hx hb d_Tl_record_15 rfl hl (by decide) rfl (fun ls hl => ?_)
  refine lv_iload_n hx hb d_Tl_record_16 rfl (lv_at hl 3 rfl) ?_
  refine lv_tableOut (tgt := 95) hx hb d_Tl_record_17 (by decide) (by decide) ?_
  refine lv_iload_n hx hb d_Tl_record_95 rfl (lv_at hl 0 rfl) ?_
  refine lv_sipush (v := nI 2048) hx hb d_Tl_record_96 (by decide) ?_
  refine lv_idiv hx hb d_Tl_record_99 (by decide) ?_
  refine lv_eqi (y := nI t) (by rw [pk_div (by omega) (by omega) (by omega)]; congr 1; omega) ?_
  refine W.widen (k := 2) (n := 2054) (Nat.le_of_ble_eq_true rfl) (Nat.le_of_ble_eq_true rfl) ?_
  exact W.zret hx hb hr rfl (fun t ht hW => ⟨⟨_, ad, rfl, ⟨rfl, nxt_rf hD⟩, by show nw _ _ _ _ _ t.heap; rw [ht]; exact hP⟩, hS.F ht⟩) hS.2.2 d_Tl_record_100 hlk
set_option maxRecDepth 100000 in
set_option maxHeartbeats 4000000 in
theorem c_Tl_word1 (l : Launch) (D : va_G) (cy : Nat → ClassId) (ad : Nat → Nat) (sa : Nat → Nat) (base : Nat) (hl0 : l.stackTraces = false) (tp rw pt cn er rc re : Nat → Nat) (cg : Nat → Nat → Nat) (tn ln bg cp cb pn : Nat) (dn op w : Bool) (x y : Int32) : mtU l y_Tl_word b_Tl_word 8 (some .long) RT D cy [.ref (ad 0), .int (x), .int (y)] ad (tlC cy ad tp tn true rw ln op bg w cp cb pt pn cn cg er rc re) (fun ad' => tlC cy ad' tp tn true rw ln op bg w cp cb pt pn cn cg er rc re) sa base xIS := by
  intro sz
  refine nx_ofW (cc := b_Tl_word) (maxL := 8) (ret := (some .long)) (own := R_Tl) (by decide) (Nat.le_of_ble_eq_true rfl) rfl ?_
  intro p e s m below meth c ls F hr hlk hex hv hl
  obtain ⟨hx, hb, hml, hown, hts⟩ := id F
  obtain ⟨rfl, ⟨hP, hK, hI⟩, hX, hlo⟩ := hv
  have hD : nd (na PT ad s.heap.size) PT ad := nd_self hI
  have hA : ∀ q, s.heap.size ≤ q → na PT ad s.heap.size q := fun q h => Or.inr h
  have hS : va_S (na PT ad s.heap.size) s.heap s.heap [] := va_S.rf
  have hl : lv_has ls 8 [(0, .ref (ad 0)), (1, .int (x)), (2, .int (y))] := hl
  refine lv_aload_n hx hb d_Tl_word_0 rfl (lv_at hl 0 rfl) ?_
  exact esc_V (As := []) (rest := []) F hK hX (c_Tl_refuseWhenDown1 l D cy ad sa base hl0 tp rw pt cn er rc re cg tn ln bg cp cb pn false op w) km_Tl_29 ki_Tl_refuseWhenDown ks_Tl_refuseWhenDown k0_Tl kc_Tl_refuseWhenDown kd_Tl_refuseWhenDown ⟨(Nat.le_of_ble_eq_true rfl), (Nat.le_of_ble_eq_true rfl)⟩ (nw_recv hK.k hP (i := 0) (by decide) tl_0 rfl) (hP) (hI) (hlo) hl.1 rfl (Nat.le_of_ble_eq_true rfl) d_Tl_word_1 ⟨(Nat.le_of_ble_eq_true rfl), (Nat.le_of_ble_eq_true rfl)⟩ hS (na_lo hX hlo) hex hlk (fun t _ hz hk => fin_U hP (nxt_rf hD) hS hz hk) (fun _ h => h) (Nat.le_of_ble_eq_true rfl) (Nat.le_of_ble_eq_true rfl)
set_option maxRecDepth 100000 in
set_option maxHeartbeats 4000000 in
theorem c_Tl_word2 (l : Launch) (D : va_G) (cy : Nat → ClassId) (ad : Nat → Nat) (sa : Nat → Nat) (base : Nat) (hl0 : l.stackTraces = false) (tp rw pt cn er rc re : Nat → Nat) (cg : Nat → Nat → Nat) (tn ln bg cp cb pn : Nat) (dn op w : Bool) (x y : Int32) (hx0 : x < 0) : mtU l y_Tl_word b_Tl_word 8 (some .long) RT D cy [.ref (ad 0), .int (x), .int (y)] ad (tlC cy ad tp tn false rw ln op bg w cp cb pt pn cn cg er rc re) (fun ad' => tlC cy ad' tp tn false rw ln op bg w cp cb pt pn cn cg er rc re) sa base xNE := by
  intro sz
  refine nx_ofW (cc := b_Tl_word) (maxL := 8) (ret := (some .long)) (own := R_Tl) (by decide) (Nat.le_of_ble_eq_true rfl) rfl ?_
  intro p e s m below meth c ls F hr hlk hex hv hl
  obtain ⟨hx, hb, hml, hown, hts⟩ := id F
  obtain ⟨rfl, ⟨hP, hK, hI⟩, hX, hlo⟩ := hv
  have hD : nd (na PT ad s.heap.size) PT ad := nd_self hI
  have hA : ∀ q, s.heap.size ≤ q → na PT ad s.heap.size q := fun q h => Or.inr h
  have hS : va_S (na PT ad s.heap.size) s.heap s.heap [] := va_S.rf
  have hl : lv_has ls 8 [(0, .ref (ad 0)), (1, .int (x)), (2, .int (y))] := hl
  refine lv_aload_n hx hb d_Tl_word_0 rfl (lv_at hl 0 rfl) ?_
  refine call_N (As := []) (rest := []) F hK (c_Tl_refuseWhenDown0 l D cy ad tp rw pt cn er rc re cg tn ln bg cp cb pn false op w) km_Tl_29 ki_Tl_refuseWhenDown ks_Tl_refuseWhenDown k0_Tl kc_Tl_refuseWhenDown kd_Tl_refuseWhenDown ⟨(Nat.le_of_ble_eq_true rfl), (Nat.le_of_ble_eq_true rfl)⟩ (nw_recv hK.k hP (i := 0) (by decide) tl_0 rfl) (hP) (hI) hl.1 rfl (Nat.le_of_ble_eq_true rfl) d_Tl_word_1 ⟨(Nat.le_of_ble_eq_true rfl), (Nat.le_of_ble_eq_true rfl)⟩ hS (fun H1 locs1 hN hS => ?_)
  have hP := hN _ _ _ hP
  generalize H1 = H at hP hS ⊢
  refine lv_aload_n hx hb d_Tl_word_4 rfl (lv_at hl 0 rfl) ?_
  refine lv_iload_n hx hb d_Tl_word_5 rfl (lv_at hl 1 rfl) ?_
  exact esc_V (As := [.int (x)]) (rest := []) F hK hX (c_Tl_addressOf2 l D cy ad sa base hl0 tp rw pt cn er rc re cg tn ln bg cp cb pn false op w x hx0) km_Tl_108 ki_Tl_addressOf ks_Tl_addressOf k0_Tl kc_Tl_addressOf kd_Tl_addressOf ⟨(Nat.le_of_ble_eq_true rfl), (Nat.le_of_ble_eq_true rfl)⟩ (nw_recv hK.k hP (i := 0) (by decide) tl_0 rfl) (hP) (hI) (hlo) hl.1 rfl (Nat.le_of_ble_eq_true rfl) d_Tl_word_6 ⟨(Nat.le_of_ble_eq_true rfl), (Nat.le_of_ble_eq_true rfl)⟩ hS (na_lo hX hlo) hex hlk (fun t _ hz hk => fin_U hP (nxt_rf hD) hS hz hk) (fun _ h => h) (Nat.le_of_ble_eq_true rfl) (Nat.le_of_ble_eq_true rfl)
set_option maxRecDepth 100000 in
set_option maxHeartbeats 4000000 in
theorem c_Tl_word3 (l : Launch) (D : va_G) (cy : Nat → ClassId) (ad : Nat → Nat) (sa : Nat → Nat) (base : Nat) (hl0 : l.stackTraces = false) (tp rw pt cn er rc re : Nat → Nat) (cg : Nat → Nat → Nat) (tn ln bg cp cb pn : Nat) (dn op w : Bool) (i : Nat) (y : Int32) (hi : i < 2 ^ 31) (HL : ln ≤ 24) (HR : ∀ i, i < ln → rw i < 24) (HC : ∀ b, b < 24 → cn b < 2 ^ 16) (HG : ∀ b, b < 24 → ∀ j, j < cn b → cg b j < 256) (HQ : ∀ b, b < 24 → rc b < 2 ^ 16 ∧ re b < 2 ^ 16) (HP : ∀ t, t < ln → ∀ q, q < rc (rw t) → pla (fB cn cg (rw t)) q < 2048) (hf : fdI cn cg rw (fdR rc rw ln 0 i) = -1) : mtU l y_Tl_word b_Tl_word 8 (some .long) RT D cy [.ref (ad 0), .int (nI i), .int (y)] ad (tlC cy ad tp tn false rw ln op bg w cp cb pt pn cn cg er rc re) (fun ad' => tlC cy ad' tp tn false rw ln op bg w cp cb pt pn cn cg er rc re) sa base xNE := by
  intro sz
  refine nx_ofW (cc := b_Tl_word) (maxL := 8) (ret := (some .long)) (own := R_Tl) (by decide) (Nat.le_of_ble_eq_true rfl) rfl ?_
  intro p e s m below meth c ls F hr hlk hex hv hl
  obtain ⟨hx, hb, hml, hown, hts⟩ := id F
  obtain ⟨rfl, ⟨hP, hK, hI⟩, hX, hlo⟩ := hv
  have hD : nd (na PT ad s.heap.size) PT ad := nd_self hI
  have hA : ∀ q, s.heap.size ≤ q → na PT ad s.heap.size q := fun q h => Or.inr h
  have hS : va_S (na PT ad s.heap.size) s.heap s.heap [] := va_S.rf
  have hl : lv_has ls 8 [(0, .ref (ad 0)), (1, .int (nI i)), (2, .int (y))] := hl
  refine lv_aload_n hx hb d_Tl_word_0 rfl (lv_at hl 0 rfl) ?_
  refine call_N (As := []) (rest := []) F hK (c_Tl_refuseWhenDown0 l D cy ad tp rw pt cn er rc re cg tn ln bg cp cb pn false op w) km_Tl_29 ki_Tl_refuseWhenDown ks_Tl_refuseWhenDown k0_Tl kc_Tl_refuseWhenDown kd_Tl_refuseWhenDown ⟨(Nat.le_of_ble_eq_true rfl), (Nat.le_of_ble_eq_true rfl)⟩ (nw_recv hK.k hP (i := 0) (by decide) tl_0 rfl) (hP) (hI) hl.1 rfl (Nat.le_of_ble_eq_true rfl) d_Tl_word_1 ⟨(Nat.le_of_ble_eq_true rfl), (Nat.le_of_ble_eq_true rfl)⟩ hS (fun H1 locs1 hN hS => ?_)
  have hP := hN _ _ _ hP
  generalize H1 = H at hP hS ⊢
  refine lv_aload_n hx hb d_Tl_word_4 rfl (lv_at hl 0 rfl) ?_
  refine lv_iload_n hx hb d_Tl_word_5 rfl (lv_at hl 1 rfl) ?_
  exact esc_V (As := [.int (nI i)]) (rest := []) F hK hX (c_Tl_addressOf1 l D cy ad sa base hl0 tp rw pt cn er rc re cg tn ln bg cp cb pn false op w i hi HL HR HC HG HQ HP hf) km_Tl_108 ki_Tl_addressOf ks_Tl_addressOf k0_Tl kc_Tl_addressOf kd_Tl_addressOf ⟨(Nat.le_of_ble_eq_true rfl), (Nat.le_of_ble_eq_true rfl)⟩ (nw_recv hK.k hP (i := 0) (by decide) tl_0 rfl) (hP) (hI) (hlo) hl.1 rfl (Nat.le_of_ble_eq_true rfl) d_Tl_word_6 ⟨(Nat.le_of_ble_eq_true rfl), (Nat.le_of_ble_eq_true rfl)⟩ hS (na_lo hX hlo) hex hlk (fun t _ hz hk => fin_U hP (nxt_rf hD) hS hz hk) (fun _ h => h) (Nat.le_of_ble_eq_true rfl) (Nat.le_of_ble_eq_true rfl)
set_option maxRecDepth 100000 in
set_option maxHeartbeats 4000000 in
theorem c_Tl_word4 (l : Launch) (D : va_G) (cy : Nat → ClassId) (ad : Nat → Nat) (sa : Nat → Nat) (base : Nat) (hl0 : l.stackTraces = false) (tp rw pt cn er rc re : Nat → Nat) (cg : Nat → Nat → Nat) (tn ln bg cp cb pn : Nat) (dn op w : Bool) (i : Nat) (y : Int32) (z : Nat) (hi : i < 2 ^ 31) (HL : ln ≤ 24) (HR : ∀ i, i < ln → rw i < 24) (HC : ∀ b, b < 24 → cn b < 2 ^ 16) (HG : ∀ b, b < 24 → ∀ j, j < cn b → cg b j < 256) (HQ : ∀ b, b < 24 → rc b < 2 ^ 16 ∧ re b < 2 ^ 16) (HP : ∀ t, t < ln → ∀ q, q < rc (rw t) → pla (fB cn cg (rw t)) q < 2048) (t o : Nat) (ht : t < ln) (ho : o + 9 ≤ 2048) (hf : fdI cn cg rw (fdR rc rw ln 0 i) = nI (t * 2048 + o)) (hz : num (fB cn cg (rw t)) (o + 5) 1 + num (fB cn cg (rw t)) (o + 6) 2 = z) (hz1 : z < 2 ^ 20) (h : y < 0 ∨ nI z ≤ y) : mtU l y_Tl_word b_Tl_word 8 (some .long) RT D cy [.ref (ad 0), .int (nI i), .int (y)] ad (tlC cy ad tp tn false rw ln op bg w cp cb pt pn cn cg er rc re) (fun ad' => tlC cy ad' tp tn false rw ln op bg w cp cb pt pn cn cg er rc re) sa base xIB := by
  intro sz
  refine nx_ofW (cc := b_Tl_word) (maxL := 8) (ret := (some .long)) (own := R_Tl) (by decide) (Nat.le_of_ble_eq_true rfl) rfl ?_
  intro p e s m below meth c ls F hr hlk hex hv hl
  obtain ⟨hx, hb, hml, hown, hts⟩ := id F
  obtain ⟨rfl, ⟨hP, hK, hI⟩, hX, hlo⟩ := hv
  have hD : nd (na PT ad s.heap.size) PT ad := nd_self hI
  have hA : ∀ q, s.heap.size ≤ q → na PT ad s.heap.size q := fun q h => Or.inr h
  have hS : va_S (na PT ad s.heap.size) s.heap s.heap [] := va_S.rf
  have hl : lv_has ls 8 [(0, .ref (ad 0)), (1, .int (nI i)), (2, .int (y))] := hl
  refine lv_aload_n hx hb d_Tl_word_0 rfl (lv_at hl 0 rfl) ?_
  refine call_N (As := []) (rest := []) F hK (c_Tl_refuseWhenDown0 l D cy ad tp rw pt cn er rc re cg tn ln bg cp cb pn false op w) km_Tl_29 ki_Tl_refuseWhenDown ks_Tl_refuseWhenDown k0_Tl kc_Tl_refuseWhenDown kd_Tl_refuseWhenDown ⟨(Nat.le_of_ble_eq_true rfl), (Nat.le_of_ble_eq_true rfl)⟩ (nw_recv hK.k hP (i := 0) (by decide) tl_0 rfl) (hP) (hI) hl.1 rfl (Nat.le_of_ble_eq_true rfl) d_Tl_word_1 ⟨(Nat.le_of_ble_eq_true rfl), (Nat.le_of_ble_eq_true rfl)⟩ hS (fun H1 locs1 hN hS => ?_)
  have hP := hN _ _ _ hP
  generalize H1 = H at hP hS ⊢
  refine lv_aload_n hx hb d_Tl_word_4 rfl (lv_at hl 0 rfl) ?_
  refine lv_iload_n hx hb d_Tl_word_5 rfl (lv_at hl 1 rfl) ?_
  refine call_R (As := [.int (nI i)]) (rest := []) F hK (c_Tl_addressOf0 l D cy ad tp rw pt cn er rc re cg tn ln bg cp cb pn false op w i (t * 2048 + o) hi HL HR HC HG HQ HP (by omega) hf) km_Tl_108 ki_Tl_addressOf ks_Tl_addressOf k0_Tl kc_Tl_addressOf kd_Tl_addressOf ⟨Nat.le_of_ble_eq_true rfl, Nat.le_of_ble_eq_true rfl⟩ (nw_recv hK.k hP (i := 0) (by decide) tl_0 rfl) (hP) (hI) hl.1 rfl (Nat.le_of_ble_eq_true rfl) d_Tl_word_6 ⟨(Nat.le_of_ble_eq_true rfl), (Nat.le_of_ble_eq_true rfl)⟩ hS (fun H1 locs1 hN hS => ?_)
  have hP := hN _ _ _ hP
  generalize H1 = H at hP hS ⊢
  refine lv_istore_n (lv' := [(3, .int (nI (t * 2048 + o))), (0, .ref (ad 0)), (1, .int (nI i)), (2, .int (y))]) hx hb d_Tl_word_9 rfl hl (by decide) rfl (fun ls hl => ?_)
  refine lv_aload_n hx hb d_Tl_word_10 rfl (lv_at hl 1 rfl) ?_
  refine nw_get (D := D) (ci := 4) (C := R_Tl) (T := T_Tl) (N := 3) hx hb hts in_Tl hown hK.k hP (i := 0) (by decide) tl_0 rfl 1 (by decide) (hts _ kf_Tl_21) rfl d_Tl_word_11 ?_
  refine lv_iload_n hx hb d_Tl_word_14 rfl (lv_at hl 0 rfl) ?_
  refine lv_iconst (v := nI 5) hx hb d_Tl_word_15 (by decide) ?_
  refine lv_iadd hx hb d_Tl_word_16 ?_
  refine lv_eqi (nI_add _ _) ?_
  refine lv_iconst (v := nI 1) hx hb d_Tl_word_17 (by decide) ?_
  refine call_R (As := [.int (nI (t * 2048 + o + 5)), .int (nI 1)]) (rest := []) F hK (c_Lg_numberAt l D cy ad (t * 2048 + o + 5) 1 t (o + 5) tp rw pt cn er rc re cg tn ln bg cp cb pn false op w HL HR HC HG ht (by omega) (by omega) (by omega)) km_Tl_112 ki_Lg_number ks_Lg_number k0_Lg kc_Lg_number kd_Lg_number ⟨Nat.le_of_ble_eq_true rfl, Nat.le_of_ble_eq_true rfl⟩ (nw_recv hK.k hP (i := 3) (by decide) tl_3 rfl) (hP) (hI) hl.1 rfl (Nat.le_of_ble_eq_true rfl) d_Tl_word_18 ⟨(Nat.le_of_ble_eq_true rfl), (Nat.le_of_ble_eq_true rfl)⟩ hS (fun H1 locs1 hN hS => ?_)
  have hP := hN _ _ _ hP
  generalize H1 = H at hP hS ⊢
  refine lv_aload_n hx hb d_Tl_word_21 rfl (lv_at hl 1 rfl) ?_
  refine nw_get (D := D) (ci := 4) (C := R_Tl) (T := T_Tl) (N := 3) hx hb hts in_Tl hown hK.k hP (i := 0) (by decide) tl_0 rfl 1 (by decide) (hts _ kf_Tl_21) rfl d_Tl_word_22 ?_
  refine lv_iload_n hx hb d_Tl_word_25 rfl (lv_at hl 0 rfl) ?_
  refine lv_bipush (v := nI 6) hx hb d_Tl_word_26 (by decide) ?_
  refine lv_iadd hx hb d_Tl_word_28 ?_
  refine lv_eqi (nI_add _ _) ?_
  refine lv_iconst (v := nI 2) hx hb d_Tl_word_29 (by decide) ?_
  refine call_R (As := [.int (nI (t * 2048 + o + 6)), .int (nI 2)]) (rest := [.int (nI (num (fB cn cg (rw t)) (o + 5) 1))]) F hK (c_Lg_numberAt l D cy ad (t * 2048 + o + 6) 2 t (o + 6) tp rw pt cn er rc re cg tn ln bg cp cb pn false op w HL HR HC HG ht (by omega) (by omega) (by omega)) km_Tl_112 ki_Lg_number ks_Lg_number k0_Lg kc_Lg_number kd_Lg_number ⟨Nat.le_of_ble_eq_true rfl, Nat.le_of_ble_eq_true rfl⟩ (nw_recv hK.k hP (i := 3) (by decide) tl_3 rfl) (hP) (hI) hl.1 rfl (Nat.le_of_ble_eq_true rfl) d_Tl_word_30 ⟨(Nat.le_of_ble_eq_true rfl), (Nat.le_of_ble_eq_true rfl)⟩ hS (fun H1 locs1 hN hS => ?_)
  have hP := hN _ _ _ hP
  generalize H1 = H at hP hS ⊢
  refine lv_iadd hx hb d_Tl_word_33 ?_
  refine lv_eqi (nI_add _ _) ?_
  rw [hz]
  refine lv_istore (lv' := [(4, .int (nI z)), (3, .int (nI (t * 2048 + o))), (0, .ref (ad 0)), (1, .int (nI i)), (2, .int (y))]) hx hb d_Tl_word_34 hl (by decide) rfl (fun ls hl => ?_)
  refine lv_iload_n hx hb d_Tl_word_36 rfl (lv_at hl 4 rfl) ?_
  refine lv_if_lt (tgt := 46) hx hb d_Tl_word_37 (by decide) (fun c37 => ?_) (fun c37 => ?_)
  · exact thr_IB F hl0 hX (List.mem_of_getElem? (i := 8) rfl) hS (na_lo hX hlo) hl.1 d_Tl_word_46 d_Tl_word_49 d_Tl_word_50 d_Tl_word_52 d_Tl_word_55 hex ⟨(Nat.le_of_ble_eq_true rfl), (Nat.le_of_ble_eq_true rfl)⟩ (Nat.le_of_ble_eq_true rfl) (Nat.le_of_ble_eq_true rfl) hlk (fun t _ hz hk => fin_U hP (nxt_rf hD) hS hz hk) hS.2.2 (Nat.le_of_ble_eq_true rfl) (Nat.le_of_ble_eq_true rfl)
  · refine lv_iload_n hx hb d_Tl_word_40 rfl (lv_at hl 4 rfl) ?_
    refine lv_iload hx hb d_Tl_word_41 (lv_at hl 0 rfl) ?_
    refine lv_icmp_lt (tgt := 56) hx hb d_Tl_word_43 (by decide) (fun c43 => absurd c43 (Int32.not_lt.mpr (h.resolve_left c37))) (fun c43 => ?_)
    exact thr_IB F hl0 hX (List.mem_of_getElem? (i := 8) rfl) hS (na_lo hX hlo) hl.1 d_Tl_word_46 d_Tl_word_49 d_Tl_word_50 d_Tl_word_52 d_Tl_word_55 hex ⟨(Nat.le_of_ble_eq_true rfl), (Nat.le_of_ble_eq_true rfl)⟩ (Nat.le_of_ble_eq_true rfl) (Nat.le_of_ble_eq_true rfl) hlk (fun t _ hz hk => fin_U hP (nxt_rf hD) hS hz hk) hS.2.2 (Nat.le_of_ble_eq_true rfl) (Nat.le_of_ble_eq_true rfl)
set_option maxRecDepth 100000 in
set_option maxHeartbeats 4000000 in
theorem c_Tl_word0 (l : Launch) (D : va_G) (cy : Nat → ClassId) (ad : Nat → Nat) (tp rw pt cn er rc re : Nat → Nat) (cg : Nat → Nat → Nat) (tn ln bg cp cb pn : Nat) (dn op w : Bool) (i j z : Nat) (hi : i < 2 ^ 31) (HL : ln ≤ 24) (HR : ∀ i, i < ln → rw i < 24) (HC : ∀ b, b < 24 → cn b < 2 ^ 16) (HG : ∀ b, b < 24 → ∀ j, j < cn b → cg b j < 256) (HQ : ∀ b, b < 24 → rc b < 2 ^ 16 ∧ re b < 2 ^ 16) (HP : ∀ t, t < ln → ∀ q, q < rc (rw t) → pla (fB cn cg (rw t)) q < 2048) (t o : Nat) (ht : t < ln) (ho : o + 9 ≤ 2048) (hf : fdI cn cg rw (fdR rc rw ln 0 i) = nI (t * 2048 + o)) (hz : num (fB cn cg (rw t)) (o + 5) 1 + num (fB cn cg (rw t)) (o + 6) 2 = z) (hz1 : z < 2 ^ 20) (hj : j < z) (hroom : o + 9 + z ≤ 2048) : mtXL l y_Tl_word b_Tl_word 8 (some .long) RT D cy [.ref (ad 0), .int (nI i), .int (nI j)] ad (tlC cy ad tp tn false rw ln op bg w cp cb pt pn cn cg er rc re) (fun ad' => tlC cy ad' tp tn false rw ln op bg w cp cb pt pn cn cg er rc re) (wd8 (fun k => if j + k < z then fB cn cg (rw t) (o + 8 + (j + k)) else 0) 8) := by
  intro sz
  refine nm_ofW (cc := b_Tl_word) (maxL := 8) (ret := (some .long)) (own := R_Tl) (by decide) (Nat.le_of_ble_eq_true rfl) rfl ?_
  intro p e s m below meth c ls F hr hlk hnm hv hl
  obtain ⟨hx, hb, hml, hown, hts⟩ := id F
  obtain ⟨rfl, hP, hK, hI⟩ := hv
  have hD : nd (na PT ad s.heap.size) PT ad := nd_self hI
  have hA : ∀ q, s.heap.size ≤ q → na PT ad s.heap.size q := fun q h => Or.inr h
  have hS : va_S (na PT ad s.heap.size) s.heap s.heap [] := va_S.rf
  have hl : lv_has ls 8 [(0, .ref (ad 0)), (1, .int (nI i)), (2, .int (nI j))] := hl
  have hb0 := HR t ht
  refine lv_aload_n hx hb d_Tl_word_0 rfl (lv_at hl 0 rfl) ?_
  refine call_N (As := []) (rest := []) F hK (c_Tl_refuseWhenDown0 l D cy ad tp rw pt cn er rc re cg tn ln bg cp cb pn false op w) km_Tl_29 ki_Tl_refuseWhenDown ks_Tl_refuseWhenDown k0_Tl kc_Tl_refuseWhenDown kd_Tl_refuseWhenDown ⟨(Nat.le_of_ble_eq_true rfl), (Nat.le_of_ble_eq_true rfl)⟩ (nw_recv hK.k hP (i := 0) (by decide) tl_0 rfl) (hP) (hI) hl.1 rfl (Nat.le_of_ble_eq_true rfl) d_Tl_word_1 ⟨(Nat.le_of_ble_eq_true rfl), (Nat.le_of_ble_eq_true rfl)⟩ hS (fun H1 locs1 hN hS => ?_)
  have hP := hN _ _ _ hP
  generalize H1 = H at hP hS ⊢
  refine lv_aload_n hx hb d_Tl_word_4 rfl (lv_at hl 0 rfl) ?_
  refine lv_iload_n hx hb d_Tl_word_5 rfl (lv_at hl 1 rfl) ?_
  refine call_R (As := [.int (nI i)]) (rest := []) F hK (c_Tl_addressOf0 l D cy ad tp rw pt cn er rc re cg tn ln bg cp cb pn false op w i (t * 2048 + o) hi HL HR HC HG HQ HP (by omega) hf) km_Tl_108 ki_Tl_addressOf ks_Tl_addressOf k0_Tl kc_Tl_addressOf kd_Tl_addressOf ⟨Nat.le_of_ble_eq_true rfl, Nat.le_of_ble_eq_true rfl⟩ (nw_recv hK.k hP (i := 0) (by decide) tl_0 rfl) (hP) (hI) hl.1 rfl (Nat.le_of_ble_eq_true rfl) d_Tl_word_6 ⟨(Nat.le_of_ble_eq_true rfl), (Nat.le_of_ble_eq_true rfl)⟩ hS (fun H1 locs1 hN hS => ?_)
  have hP := hN _ _ _ hP
  generalize H1 = H at hP hS ⊢
  refine lv_istore_n (lv' := [(3, .int (nI (t * 2048 + o))), (0, .ref (ad 0)), (1, .int (nI i)), (2, .int (nI j))]) hx hb d_Tl_word_9 rfl hl (by decide) rfl (fun ls hl => ?_)
  refine lv_aload_n hx hb d_Tl_word_10 rfl (lv_at hl 1 rfl) ?_
  refine nw_get (D := D) (ci := 4) (C := R_Tl) (T := T_Tl) (N := 3) hx hb hts in_Tl hown hK.k hP (i := 0) (by decide) tl_0 rfl 1 (by decide) (hts _ kf_Tl_21) rfl d_Tl_word_11 ?_
  refine lv_iload_n hx hb d_Tl_word_14 rfl (lv_at hl 0 rfl) ?_
  refine lv_iconst (v := nI 5) hx hb d_Tl_word_15 (by decide) ?_
  refine lv_iadd hx hb d_Tl_word_16 ?_
  refine lv_eqi (nI_add _ _) ?_
  refine lv_iconst (v := nI 1) hx hb d_Tl_word_17 (by decide) ?_
  refine call_R (As := [.int (nI (t * 2048 + o + 5)), .int (nI 1)]) (rest := []) F hK (c_Lg_numberAt l D cy ad (t * 2048 + o + 5) 1 t (o + 5) tp rw pt cn er rc re cg tn ln bg cp cb pn false op w HL HR HC HG ht (by omega) (by omega) (by omega)) km_Tl_112 ki_Lg_number ks_Lg_number k0_Lg kc_Lg_number kd_Lg_number ⟨Nat.le_of_ble_eq_true rfl, Nat.le_of_ble_eq_true rfl⟩ (nw_recv hK.k hP (i := 3) (by decide) tl_3 rfl) (hP) (hI) hl.1 rfl (Nat.le_of_ble_eq_true rfl) d_Tl_word_18 ⟨(Nat.le_of_ble_eq_true rfl), (Nat.le_of_ble_eq_true rfl)⟩ hS (fun H1 locs1 hN hS => ?_)
  have hP := hN _ _ _ hP
  generalize H1 = H at hP hS ⊢
  refine lv_aload_n hx hb d_Tl_word_21 rfl (lv_at hl 1 rfl) ?_
  refine nw_get (D := D) (ci := 4) (C := R_Tl) (T := T_Tl) (N := 3) hx hb hts in_Tl hown hK.k hP (i := 0) (by decide) tl_0 rfl 1 (by decide) (hts _ kf_Tl_21) rfl d_Tl_word_22 ?_
  refine lv_iload_n hx hb d_Tl_word_25 rfl (lv_at hl 0 rfl) ?_
  refine lv_bipush (v := nI 6) hx hb d_Tl_word_26 (by decide) ?_
  refine lv_iadd hx hb d_Tl_word_28 ?_
  refine lv_eqi (nI_add _ _) ?_
  refine lv_iconst (v := nI 2) hx hb d_Tl_word_29 (by decide) ?_
  refine call_R (As := [.int (nI (t * 2048 + o + 6)), .int (nI 2)]) (rest := [.int (nI (num (fB cn cg (rw t)) (o + 5) 1))]) F hK (c_Lg_numberAt l D cy ad (t * 2048 + o + 6) 2 t (o + 6) tp rw pt cn er rc re cg tn ln bg cp cb pn false op w HL HR HC HG ht (by omega) (by omega) (by omega)) km_Tl_112 ki_Lg_number ks_Lg_number k0_Lg kc_Lg_number kd_Lg_number ⟨Nat.le_of_ble_eq_true rfl, Nat.le_of_ble_eq_true rfl⟩ (nw_recv hK.k hP (i := 3) (by decide) tl_3 rfl) (hP) (hI) hl.1 rfl (Nat.le_of_ble_eq_true rfl) d_Tl_word_30 ⟨(Nat.le_of_ble_eq_true rfl), (Nat.le_of_ble_eq_true rfl)⟩ hS (fun H1 locs1 hN hS => ?_)
  have hP := hN _ _ _ hP
  generalize H1 = H at hP hS ⊢
  refine lv_iadd hx hb d_Tl_word_33 ?_
  refine lv_eqi (nI_add _ _) ?_
  rw [hz]
  refine lv_istore (lv' := [(4, .int (nI z)), (3, .int (nI (t * 2048 + o))), (0, .ref (ad 0)), (1, .int (nI i)), (2, .int (nI j))]) hx hb d_Tl_word_34 hl (by decide) rfl (fun ls hl => ?_)
  refine lv_iload_n hx hb d_Tl_word_36 rfl (lv_at hl 4 rfl) ?_
  refine lv_if_lt (tgt := 46) hx hb d_Tl_word_37 (by decide) (fun c37 => absurd c37 (nI_pos (by omega))) (fun c37 => ?_)
  refine lv_iload_n hx hb d_Tl_word_40 rfl (lv_at hl 4 rfl) ?_
  refine lv_iload hx hb d_Tl_word_41 (lv_at hl 0 rfl) ?_
  refine lv_icmp_lt (tgt := 56) hx hb d_Tl_word_43 (by decide) (fun c43 => ?_) (fun c43 => absurd ((nI_ltI (by omega) (by omega)).mpr (by omega)) c43)
  refine lv_lconst (v := 0) hx hb d_Tl_word_56 (by decide) ?_
  refine lv_lstore (lv' := [(5, .long (0)), (4, .int (nI z)), (3, .int (nI (t * 2048 + o))), (0, .ref (ad 0)), (1, .int (nI i)), (2, .int (nI j))]) hx hb d_Tl_word_57 hl (by decide) rfl (fun ls hl => ?_)
  refine lv_iload_n hx hb d_Tl_word_59 rfl (lv_at hl 5 rfl) ?_
  refine lv_istore (lv' := [(7, .int (nI j)), (5, .long (0)), (4, .int (nI z)), (3, .int (nI (t * 2048 + o))), (0, .ref (ad 0)), (1, .int (nI i)), (2, .int (nI j))]) hx hb d_Tl_word_60 hl (by decide) rfl (fun ls hl => ?_)
  have loop : ∀ (q k : Nat), k + q = 8 → ∀ (H : Heap) (locs : List Loc) (ls : Array Slot), nw D vcl PT ad (tlC cy ad tp tn false rw ln op bg w cp cb pt pn cn cg er rc re) H → va_S (na PT ad s.heap.size) s.heap H locs → lv_has ls 8 [(7, .int (nI (j + k))), (5, .long (wd8 (fun k => if j + k < z then fB cn cg (rw t) (o + 8 + (j + k)) else 0) k)), (4, .int (nI z)), (3, .int (nI (t * 2048 + o))), (0, .ref (ad 0)), (1, .int (nI i)), (2, .int (nI j))] → W p l e RT s m [.ref (ad 0), .int (nI i), .int (nI j)].toArray below meth c H locs 0 0 (MQ below (va_Ql (fun r' (ad' : Nat → Nat) => r' = wd8 (fun k => if j + k < z then fB cn cg (rw t) (o + 8 + (j + k)) else 0) 8 ∧ nxt ad ad' s.heap.size) (fun ad' t => nw D vcl PT ad' (tlC cy ad' tp tn false rw ln op bg w cp cb pt pn cn cg er rc re) t.heap) (na PT ad s.heap.size)) [.ref (ad 0), .int (nI i), .int (nI j)].toArray s 2 2054 (na PT ad s.heap.size)) (F0 m 62 ls []) := by
    intro q
    induction q with
    | zero =>
      intro k hk H locs ls hP hS hl
      obtain rfl : k = 8 := by omega
      refine lv_iload hx hb d_Tl_word_62 (lv_at hl 0 rfl) ?_
      refine lv_iload_n hx hb d_Tl_word_64 rfl (lv_at hl 6 rfl) ?_
      refine lv_bipush (v := nI 8) hx hb d_Tl_word_65 (by decide) ?_
      refine lv_iadd hx hb d_Tl_word_67 ?_
      refine lv_eqi (nI_add _ _) ?_
      refine lv_icmp_ge (tgt := 112) hx hb d_Tl_word_68 (by decide) (fun c68 => ?_) (fun c68 => absurd ((nI_leI (by omega) (by omega)).mpr (by omega)) c68)
      refine lv_lload hx hb d_Tl_word_112 (lv_at hl 1 rfl) ?_
      refine W.widen (k := 2) (n := 2054) (Nat.le_of_ble_eq_true rfl) (Nat.le_of_ble_eq_true rfl) ?_
      exact W.lret hx hb hr (fun t ht hW => ⟨⟨_, ad, rfl, ⟨rfl, nxt_rf hD⟩, by show nw _ _ _ _ _ t.heap; rw [ht]; exact hP⟩, hS.F ht⟩) hS.2.2 d_Tl_word_114 hlk
    | succ q ih =>
      intro k hk H locs ls hP hS hl
      refine lv_iload hx hb d_Tl_word_62 (lv_at hl 0 rfl) ?_
      refine lv_iload_n hx hb d_Tl_word_64 rfl (lv_at hl 6 rfl) ?_
      refine lv_bipush (v := nI 8) hx hb d_Tl_word_65 (by decide) ?_
      refine lv_iadd hx hb d_Tl_word_67 ?_
      refine lv_eqi (nI_add _ _) ?_
      refine lv_icmp_ge (tgt := 112) hx hb d_Tl_word_68 (by decide) (fun c68 => absurd c68 (fun z => absurd ((nI_leI (by omega) (by omega)).mp z) (by omega))) (fun c68 => ?_)
      refine lv_lload hx hb d_Tl_word_71 (lv_at hl 1 rfl) ?_
      refine lv_bipush (v := nI 8) hx hb d_Tl_word_73 (by decide) ?_
      refine lv_lshl hx hb d_Tl_word_75 rfl ?_
      refine lv_iload hx hb d_Tl_word_76 (lv_at hl 0 rfl) ?_
      refine lv_iload hx hb d_Tl_word_78 (lv_at hl 2 rfl) ?_
      refine lv_icmp_ge (tgt := 101) hx hb d_Tl_word_80 (by decide) (fun c80 => ?_) (fun c80 => ?_)
      · have c80 := (nI_leI (by omega) (by omega)).mp c80
        refine lv_iconst (v := nI 0) hx hb d_Tl_word_101 (by decide) ?_
        refine lv_i2l hx hb d_Tl_word_102 rfl ?_
        refine lv_lor hx hb d_Tl_word_103 ?_
        refine lv_eql (y := wd8 (fun k => if j + k < z then fB cn cg (rw t) (o + 8 + (j + k)) else 0) (k + 1)) (by rw [wd8_s _ (by omega)]; simp only [wd8, if_neg (show ¬ j + k < z by omega)]) ?_
        refine lv_lstore (lv' := [(5, .long (wd8 (fun k => if j + k < z then fB cn cg (rw t) (o + 8 + (j + k)) else 0) (k + 1))), (7, .int (nI (j + k))), (4, .int (nI z)), (3, .int (nI (t * 2048 + o))), (0, .ref (ad 0)), (1, .int (nI i)), (2, .int (nI j))]) hx hb d_Tl_word_104 hl (by decide) rfl (fun ls hl => ?_)
        refine lv_iinc (v := nI (j + k + 1)) (lv' := [(7, .int (nI (j + k + 1))), (5, .long (wd8 (fun k => if j + k < z then fB cn cg (rw t) (o + 8 + (j + k)) else 0) (k + 1))), (4, .int (nI z)), (3, .int (nI (t * 2048 + o))), (0, .ref (ad 0)), (1, .int (nI i)), (2, .int (nI j))]) hx hb d_Tl_word_106 hl (k := 1) rfl (nI_inc _) (by decide) rfl (fun ls hl => ?_)
        refine lv_goto (tgt := 62) hx hb d_Tl_word_109 (by decide) ?_
        exact ih (k + 1) (by omega) _ _ _ hP hS (lv_sub hl [0, 1, 2, 3, 4, 5, 6] rfl)
      · have c80 := mt (nI_leI (by omega) (by omega)).mpr c80
        have hq : fB cn cg (rw t) (o + 8 + (j + k)) < 256 := vc_lt (HG _ hb0) _
        refine lv_aload_n hx hb d_Tl_word_83 rfl (lv_at hl 4 rfl) ?_
        refine nw_get (D := D) (ci := 4) (C := R_Tl) (T := T_Tl) (N := 3) hx hb hts in_Tl hown hK.k hP (i := 0) (by decide) tl_0 rfl 1 (by decide) (hts _ kf_Tl_21) rfl d_Tl_word_84 ?_
        refine lv_iload_n hx hb d_Tl_word_87 rfl (lv_at hl 3 rfl) ?_
        refine lv_bipush (v := nI 8) hx hb d_Tl_word_88 (by decide) ?_
        refine lv_iadd hx hb d_Tl_word_90 ?_
        refine lv_eqi (nI_add _ _) ?_
        refine lv_iload hx hb d_Tl_word_91 (lv_at hl 0 rfl) ?_
        refine lv_iadd hx hb d_Tl_word_93 ?_
        refine lv_eqi (nI_add _ _) ?_
        refine lv_iconst (v := nI 1) hx hb d_Tl_word_94 (by decide) ?_
        refine call_R (As := [.int (nI (t * 2048 + o + 8 + (j + k))), .int (nI 1)]) (rest := [.long ((wd8 (fun k => if j + k < z then fB cn cg (rw t) (o + 8 + (j + k)) else 0) k) <<< ((nI 8).toInt64 &&& 63))]) F hK (c_Lg_numberAt l D cy ad (t * 2048 + o + 8 + (j + k)) 1 t (o + 8 + (j + k)) tp rw pt cn er rc re cg tn ln bg cp cb pn false op w HL HR HC HG ht (by omega) (by omega) (by omega)) km_Tl_112 ki_Lg_number ks_Lg_number k0_Lg kc_Lg_number kd_Lg_number ⟨Nat.le_of_ble_eq_true rfl, Nat.le_of_ble_eq_true rfl⟩ (nw_recv hK.k hP (i := 3) (by decide) tl_3 rfl) (hP) (hI) hl.1 rfl (Nat.le_of_ble_eq_true rfl) d_Tl_word_95 ⟨(Nat.le_of_ble_eq_true rfl), (Nat.le_of_ble_eq_true rfl)⟩ hS (fun H1 locs1 hN hS => ?_)
        have hP := hN _ _ _ hP
        generalize H1 = H at hP hS ⊢
        refine lv_eqi (y := nI (fB cn cg (rw t) (o + 8 + (j + k)))) (by simp [num]) ?_
        refine lv_goto (tgt := 102) hx hb d_Tl_word_98 (by decide) ?_
        refine lv_i2l hx hb d_Tl_word_102 rfl ?_
        refine lv_lor hx hb d_Tl_word_103 ?_
        refine lv_eql (y := wd8 (fun k => if j + k < z then fB cn cg (rw t) (o + 8 + (j + k)) else 0) (k + 1)) (by rw [wd8_s _ (hq)]; simp only [wd8, if_pos (show j + k < z by omega)]) ?_
        refine lv_lstore (lv' := [(5, .long (wd8 (fun k => if j + k < z then fB cn cg (rw t) (o + 8 + (j + k)) else 0) (k + 1))), (7, .int (nI (j + k))), (4, .int (nI z)), (3, .int (nI (t * 2048 + o))), (0, .ref (ad 0)), (1, .int (nI i)), (2, .int (nI j))]) hx hb d_Tl_word_104 hl (by decide) rfl (fun ls hl => ?_)
        refine lv_iinc (v := nI (j + k + 1)) (lv' := [(7, .int (nI (j + k + 1))), (5, .long (wd8 (fun k => if j + k < z then fB cn cg (rw t) (o + 8 + (j + k)) else 0) (k + 1))), (4, .int (nI z)), (3, .int (nI (t * 2048 + o))), (0, .ref (ad 0)), (1, .int (nI i)), (2, .int (nI j))]) hx hb d_Tl_word_106 hl (k := 1) rfl (nI_inc _) (by decide) rfl (fun ls hl => ?_)
        refine lv_goto (tgt := 62) hx hb d_Tl_word_109 (by decide) ?_
        exact ih (k + 1) (by omega) _ _ _ hP hS (lv_sub hl [0, 1, 2, 3, 4, 5, 6] rfl)
  exact loop 8 0 (by omega) _ _ _ hP hS (lv_sub hl [0, 1, 2, 3, 4, 5, 6] rfl)

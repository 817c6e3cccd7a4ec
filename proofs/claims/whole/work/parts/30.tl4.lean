/-! TornLog: append -/
section CX
variable {p : Program} {l : Launch} {e : Env} {R : Room} {s : State} {m : MethodId} {args : Array Value} {below : List Frame} {meth : Method} {c : Code} {H : Heap} {locs : List Loc} {cells slots : Nat} {Q : State → Prop}
variable {cc : ByteArray} {pc nL : Nat} {ls : Array Slot} {rest st0 : List Value} {D : va_G} {cy : Nat → ClassId} {A : Nat → Prop} {H0 : Heap} {own C : String} {index maxL n : Nat} {y : MethodName} {bytes : ByteArray} {ret : Option FieldType} {rm : Room} {b : Addr} {As : List Value}
theorem nxt_mono {ad ad' : Nat → Nat} {a b : Nat} (h : nxt ad ad' b) (hab : a ≤ b) : nxt ad ad' a := ⟨h.1, fun i hi => (h.2.1 i hi).elim Or.inl (fun z => Or.inr (Nat.le_trans hab z)), h.2.2⟩
theorem nxt_nd {ad ad' : Nat → Nat} {a : Nat} (h : nxt ad ad' a) : nd (na PT ad a) PT ad' := ⟨h.2.2, fun i hi => (h.2.1 i hi).elim (fun e => Or.inl ⟨i, hi, e⟩) Or.inr⟩
theorem nxt_le {ad ad' : Nat → Nat} {H0 H : Heap} {locs : List Loc} (hN : nxt ad ad' H0.size) (hS : va_S (na PT ad H0.size) H0 H locs) : ∀ q, na PT ad' H.size q → na PT ad H0.size q := fun q h => h.elim (fun ⟨i, hi, e⟩ => by rw [e]; exact (nxt_nd hN).2 i hi) (fun h => Or.inr (Nat.le_trans hS.1 h))
theorem call_X {ad : Nat → Nat} {ct : Nat → va_E} {ct1 : (Nat → Nat) → Nat → va_E} {r : Int32} (F : CallFix p m c cc nL s args TG own) (hK : KN D cy s) (hM : mtX l y bytes maxL ret rm D cy (.ref b :: As) ad ct ct1 r)
    (h1 : Cond.methodLink own index y ∈ TG) (h2 : Cond.instanceMethod y ∈ TG) (h3 : Cond.selects y.cls y y ∈ TG) (h4 : Cond.initialized y.cls ∈ TG) (h5 : Cond.code y bytes maxL ret ∈ TG) (hd : y.cls ≠ "java/lang/invoke/MethodHandle" ∧ y.cls ≠ "java/lang/invoke/VarHandle" ∧ (parseMethodDescriptor y.desc).map (fun d => d.parameters.length) = some As.length) (hR : rm.frames + 1 ≤ R.frames ∧ 8 + (maxL + 11) + rm.locals ≤ R.locals)
    (hb : ∃ cell : Cell, H[b]? = some cell ∧ cell.vm.isStatics = false ∧ s.vm.findClass y.cls = some cell.cls) (hP' : nw D vcl PT ad ct H) (hI : ∀ i j, PT i → PT j → ad i = ad j → i = j)
    (hsize : ls.size = nL) (hst : st0 = As.reverse ++ .ref b :: rest) (hW : (rest.map fun v => v.category).sum ≤ 8) (hdg : decode cc pc = .ok (.invokevirtual index, 3)) (hf : cells + rm.cells ≤ R.cells ∧ slots + rm.slots ≤ R.slots) (hS : va_S A H0 H locs) (hA : ∀ q, na PT ad H.size q → A q)
    (kk : ∀ (ad' : Nat → Nat) (H1 : Heap) (locs1 : List Loc), nxt ad ad' H.size → nw D vcl PT ad' (ct1 ad') H1 → (∀ q : Nat, q < H.size → ¬ na PT ad H.size q → H1[q]? = H[q]?) → va_S A H0 H1 locs1 → W p l e R s m args below meth c H1 locs1 (cells + rm.cells) (slots + rm.slots) Q (F0 m (pc + 3) ls (.int r :: rest))) :
    W p l e R s m args below meth c H locs cells slots Q (F0 m pc ls st0) := by
  refine va_calli (va_runV (As := As) (rest := rest) (b := b) F (hM H.size) ⟨cw_b As.length F.2.2.2.2 h1 h4 h5 hd hR, F.2.2.2.2 _ h2, F.2.2.2.2 _ h3⟩ ⟨pre0_blind, hb, pre0_at hK hP' hI⟩ rfl rfl hsize hst (lv_room hW) hdg hf) hS (fun q _ h => hA q h) hA (fun r' ad' t H1 locs1 ht hvm hw hB hz hk hS1 => ?_)
  obtain ⟨hw, hn⟩ := hw
  subst hw
  have hB : nw D vcl PT ad' (ct1 ad') t.heap := hB
  rw [ht] at hB
  exact kk ad' H1 locs1 hn hB hk hS1
end CX
set_option maxRecDepth 100000 in
set_option maxHeartbeats 4000000 in
theorem c_Tl_append1 (l : Launch) (D : va_G) (cy : Nat → ClassId) (ad : Nat → Nat) (sa : Nat → Nat) (base : Nat) (hl0 : l.stackTraces = false) (tp rw pt cn er rc re : Nat → Nat) (cg : Nat → Nat → Nat) (tn ln bg cp cb pn : Nat) (dn op w : Bool) (x y z : Int32) (h : x < nI 1 ∨ nI 15 < x) : mtU l y_Tl_append b_Tl_append 6 (some .int) RT D cy [.ref (ad 0), .int (x), .int (y), .int (z)] ad (tlC cy ad tp tn dn rw ln op bg w cp cb pt pn cn cg er rc re) (fun ad' => tlC cy ad' tp tn dn rw ln op bg w cp cb pt pn cn cg er rc re) sa base xIA := by
  intro sz
  refine nx_ofW (cc := b_Tl_append) (maxL := 6) (ret := (some .int)) (own := R_Tl) (by decide) (Nat.le_of_ble_eq_true rfl) rfl ?_
  intro p e s m below meth c ls F hr hlk hex hv hl
  obtain ⟨hx, hb, hml, hown, hts⟩ := id F
  obtain ⟨rfl, ⟨hP, hK, hI⟩, hX, hlo⟩ := hv
  have hD : nd (na PT ad s.heap.size) PT ad := nd_self hI
  have hA : ∀ q, s.heap.size ≤ q → na PT ad s.heap.size q := fun q h => Or.inr h
  have hS : va_S (na PT ad s.heap.size) s.heap s.heap [] := va_S.rf
  have hl : lv_has ls 6 [(0, .ref (ad 0)), (1, .int (x)), (2, .int (y)), (3, .int (z))] := hl
  refine lv_iload_n hx hb d_Tl_append_0 rfl (lv_at hl 1 rfl) ?_
  refine lv_iconst (v := nI 1) hx hb d_Tl_append_1 (by decide) ?_
  refine lv_bipush (v := nI 15) hx hb d_Tl_append_2 (by decide) ?_
  exact esc_S (As := [.int (x), .int (nI 1), .int (nI 15)]) (rest := []) F hX (c_Tl_refuseOutside1 l sa base hl0 x (nI 1) (nI 15) h) km_Tl_42 kt_Tl_refuseOutside k0_Tl kc_Tl_refuseOutside kd_Tl_refuseOutside ⟨(Nat.le_of_ble_eq_true rfl), (Nat.le_of_ble_eq_true rfl)⟩ hl.1 rfl (Nat.le_of_ble_eq_true rfl) d_Tl_append_4 ⟨(Nat.le_of_ble_eq_true rfl), (Nat.le_of_ble_eq_true rfl)⟩ hS (na_lo hX hlo) hex hlk (fun t _ hz hk => fin_U hP (nxt_rf hD) hS hz hk) (fun _ h => h) (Nat.le_of_ble_eq_true rfl) (Nat.le_of_ble_eq_true rfl)
set_option maxRecDepth 100000 in
set_option maxHeartbeats 4000000 in
theorem c_Tl_append2 (l : Launch) (D : va_G) (cy : Nat → ClassId) (ad : Nat → Nat) (sa : Nat → Nat) (base : Nat) (hl0 : l.stackTraces = false) (tp rw pt cn er rc re : Nat → Nat) (cg : Nat → Nat → Nat) (tn ln bg cp cb pn : Nat) (dn op w : Bool) (x y z : Int32) (h1 : ¬ x < nI 1) (h2 : ¬ nI 15 < x) (h : y < 0) : mtU l y_Tl_append b_Tl_append 6 (some .int) RT D cy [.ref (ad 0), .int (x), .int (y), .int (z)] ad (tlC cy ad tp tn dn rw ln op bg w cp cb pt pn cn cg er rc re) (fun ad' => tlC cy ad' tp tn dn rw ln op bg w cp cb pt pn cn cg er rc re) sa base xIA := by
  intro sz
  refine nx_ofW (cc := b_Tl_append) (maxL := 6) (ret := (some .int)) (own := R_Tl) (by decide) (Nat.le_of_ble_eq_true rfl) rfl ?_
  intro p e s m below meth c ls F hr hlk hex hv hl
  obtain ⟨hx, hb, hml, hown, hts⟩ := id F
  obtain ⟨rfl, ⟨hP, hK, hI⟩, hX, hlo⟩ := hv
  have hD : nd (na PT ad s.heap.size) PT ad := nd_self hI
  have hA : ∀ q, s.heap.size ≤ q → na PT ad s.heap.size q := fun q h => Or.inr h
  have hS : va_S (na PT ad s.heap.size) s.heap s.heap [] := va_S.rf
  have hl : lv_has ls 6 [(0, .ref (ad 0)), (1, .int (x)), (2, .int (y)), (3, .int (z))] := hl
  refine lv_iload_n hx hb d_Tl_append_0 rfl (lv_at hl 1 rfl) ?_
  refine lv_iconst (v := nI 1) hx hb d_Tl_append_1 (by decide) ?_
  refine lv_bipush (v := nI 15) hx hb d_Tl_append_2 (by decide) ?_
  refine call_SN (As := [.int (x), .int (nI 1), .int (nI 15)]) (rest := []) F (c_Tl_refuseOutside0 l x (nI 1) (nI 15) h1 h2) km_Tl_42 kt_Tl_refuseOutside k0_Tl kc_Tl_refuseOutside kd_Tl_refuseOutside ⟨(Nat.le_of_ble_eq_true rfl), (Nat.le_of_ble_eq_true rfl)⟩ hl.1 rfl (Nat.le_of_ble_eq_true rfl) d_Tl_append_4 ⟨(Nat.le_of_ble_eq_true rfl), (Nat.le_of_ble_eq_true rfl)⟩ hS (fun H1 locs1 hN hS => ?_)
  have hP := hN _ _ _ _ hP
  generalize H1 = H at hP hS ⊢
  refine lv_iload_n hx hb d_Tl_append_7 rfl (lv_at hl 2 rfl) ?_
  exact esc_S (As := [.int (y)]) (rest := []) F hX (c_Tl_refuseNegative1 l sa base hl0 y h) km_Tl_49 kt_Tl_refuseNegative k0_Tl kc_Tl_refuseNegative kd_Tl_refuseNegative ⟨(Nat.le_of_ble_eq_true rfl), (Nat.le_of_ble_eq_true rfl)⟩ hl.1 rfl (Nat.le_of_ble_eq_true rfl) d_Tl_append_8 ⟨(Nat.le_of_ble_eq_true rfl), (Nat.le_of_ble_eq_true rfl)⟩ hS (na_lo hX hlo) hex hlk (fun t _ hz hk => fin_U hP (nxt_rf hD) hS hz hk) (fun _ h => h) (Nat.le_of_ble_eq_true rfl) (Nat.le_of_ble_eq_true rfl)
set_option maxRecDepth 100000 in
set_option maxHeartbeats 4000000 in
theorem c_Tl_append3 (l : Launch) (D : va_G) (cy : Nat → ClassId) (ad : Nat → Nat) (sa : Nat → Nat) (base : Nat) (hl0 : l.stackTraces = false) (tp rw pt cn er rc re : Nat → Nat) (cg : Nat → Nat → Nat) (tn ln bg cp cb pn : Nat) (dn op w : Bool) (x y z : Int32) (h1 : ¬ x < nI 1) (h2 : ¬ nI 15 < x) (h3 : ¬ y < 0) (h : z < nI 0 ∨ nI 45 < z) : mtU l y_Tl_append b_Tl_append 6 (some .int) RT D cy [.ref (ad 0), .int (x), .int (y), .int (z)] ad (tlC cy ad tp tn dn rw ln op bg w cp cb pt pn cn cg er rc re) (fun ad' => tlC cy ad' tp tn dn rw ln op bg w cp cb pt pn cn cg er rc re) sa base xIA := by
  intro sz
  refine nx_ofW (cc := b_Tl_append) (maxL := 6) (ret := (some .int)) (own := R_Tl) (by decide) (Nat.le_of_ble_eq_true rfl) rfl ?_
  intro p e s m below meth c ls F hr hlk hex hv hl
  obtain ⟨hx, hb, hml, hown, hts⟩ := id F
  obtain ⟨rfl, ⟨hP, hK, hI⟩, hX, hlo⟩ := hv
  have hD : nd (na PT ad s.heap.size) PT ad := nd_self hI
  have hA : ∀ q, s.heap.size ≤ q → na PT ad s.heap.size q := fun q h => Or.inr h
  have hS : va_S (na PT ad s.heap.size) s.heap s.heap [] := va_S.rf
  have hl : lv_has ls 6 [(0, .ref (ad 0)), (1, .int (x)), (2, .int (y)), (3, .int (z))] := hl
  refine lv_iload_n hx hb d_Tl_append_0 rfl (lv_at hl 1 rfl) ?_
  refine lv_iconst (v := nI 1) hx hb d_Tl_append_1 (by decide) ?_
  refine lv_bipush (v := nI 15) hx hb d_Tl_append_2 (by decide) ?_
  refine call_SN (As := [.int (x), .int (nI 1), .int (nI 15)]) (rest := []) F (c_Tl_refuseOutside0 l x (nI 1) (nI 15) h1 h2) km_Tl_42 kt_Tl_refuseOutside k0_Tl kc_Tl_refuseOutside kd_Tl_refuseOutside ⟨(Nat.le_of_ble_eq_true rfl), (Nat.le_of_ble_eq_true rfl)⟩ hl.1 rfl (Nat.le_of_ble_eq_true rfl) d_Tl_append_4 ⟨(Nat.le_of_ble_eq_true rfl), (Nat.le_of_ble_eq_true rfl)⟩ hS (fun H1 locs1 hN hS => ?_)
  have hP := hN _ _ _ _ hP
  generalize H1 = H at hP hS ⊢
  refine lv_iload_n hx hb d_Tl_append_7 rfl (lv_at hl 2 rfl) ?_
  refine call_SN (As := [.int (y)]) (rest := []) F (c_Tl_refuseNegative0 l y h3) km_Tl_49 kt_Tl_refuseNegative k0_Tl kc_Tl_refuseNegative kd_Tl_refuseNegative ⟨(Nat.le_of_ble_eq_true rfl), (Nat.le_of_ble_eq_true rfl)⟩ hl.1 rfl (Nat.le_of_ble_eq_true rfl) d_Tl_append_8 ⟨(Nat.le_of_ble_eq_true rfl), (Nat.le_of_ble_eq_true rfl)⟩ hS (fun H1 locs1 hN hS => ?_)
  have hP := hN _ _ _ _ hP
  generalize H1 = H at hP hS ⊢
  refine lv_iload_n hx hb d_Tl_append_11 rfl (lv_at hl 3 rfl) ?_
  refine lv_iconst (v := nI 0) hx hb d_Tl_append_12 (by decide) ?_
  refine lv_bipush (v := nI 45) hx hb d_Tl_append_13 (by decide) ?_
  exact esc_S (As := [.int (z), .int (nI 0), .int (nI 45)]) (rest := []) F hX (c_Tl_refuseOutside1 l sa base hl0 z (nI 0) (nI 45) h) km_Tl_42 kt_Tl_refuseOutside k0_Tl kc_Tl_refuseOutside kd_Tl_refuseOutside ⟨(Nat.le_of_ble_eq_true rfl), (Nat.le_of_ble_eq_true rfl)⟩ hl.1 rfl (Nat.le_of_ble_eq_true rfl) d_Tl_append_15 ⟨(Nat.le_of_ble_eq_true rfl), (Nat.le_of_ble_eq_true rfl)⟩ hS (na_lo hX hlo) hex hlk (fun t _ hz hk => fin_U hP (nxt_rf hD) hS hz hk) (fun _ h => h) (Nat.le_of_ble_eq_true rfl) (Nat.le_of_ble_eq_true rfl)
set_option maxRecDepth 100000 in
set_option maxHeartbeats 4000000 in
theorem c_Tl_append4 (l : Launch) (D : va_G) (cy : Nat → ClassId) (ad : Nat → Nat) (sa : Nat → Nat) (base : Nat) (hl0 : l.stackTraces = false) (tp rw pt cn er rc re : Nat → Nat) (cg : Nat → Nat → Nat) (tn ln bg cp cb pn : Nat) (dn op w : Bool) (kd mo k : Nat) (hkd1 : 1 ≤ kd) (hkd2 : kd ≤ 15) (hmo : mo < 2 ^ 31) (hk : k ≤ 45) (htn : tn ≤ 1060) (h : tn < k ∨ k + 1000 < tn) : mtU l y_Tl_append b_Tl_append 6 (some .int) RT D cy [.ref (ad 0), .int (nI kd), .int (nI mo), .int (nI k)] ad (tlC cy ad tp tn dn rw ln op bg w cp cb pt pn cn cg er rc re) (fun ad' => tlC cy ad' tp tn dn rw ln op bg w cp cb pt pn cn cg er rc re) sa base xIA := by
  intro sz
  refine nx_ofW (cc := b_Tl_append) (maxL := 6) (ret := (some .int)) (own := R_Tl) (by decide) (Nat.le_of_ble_eq_true rfl) rfl ?_
  intro p e s m below meth c ls F hr hlk hex hv hl
  obtain ⟨hx, hb, hml, hown, hts⟩ := id F
  obtain ⟨rfl, ⟨hP, hK, hI⟩, hX, hlo⟩ := hv
  have hD : nd (na PT ad s.heap.size) PT ad := nd_self hI
  have hA : ∀ q, s.heap.size ≤ q → na PT ad s.heap.size q := fun q h => Or.inr h
  have hS : va_S (na PT ad s.heap.size) s.heap s.heap [] := va_S.rf
  have hl : lv_has ls 6 [(0, .ref (ad 0)), (1, .int (nI kd)), (2, .int (nI mo)), (3, .int (nI k))] := hl
  refine lv_iload_n hx hb d_Tl_append_0 rfl (lv_at hl 1 rfl) ?_
  refine lv_iconst (v := nI 1) hx hb d_Tl_append_1 (by decide) ?_
  refine lv_bipush (v := nI 15) hx hb d_Tl_append_2 (by decide) ?_
  refine call_SN (As := [.int (nI kd), .int (nI 1), .int (nI 15)]) (rest := []) F (c_Tl_refuseOutside0 l (nI kd) (nI 1) (nI 15) (mt (nI_ltI (by omega) (by omega)).mp (by omega)) (mt (nI_ltI (by omega) (by omega)).mp (by omega))) km_Tl_42 kt_Tl_refuseOutside k0_Tl kc_Tl_refuseOutside kd_Tl_refuseOutside ⟨(Nat.le_of_ble_eq_true rfl), (Nat.le_of_ble_eq_true rfl)⟩ hl.1 rfl (Nat.le_of_ble_eq_true rfl) d_Tl_append_4 ⟨(Nat.le_of_ble_eq_true rfl), (Nat.le_of_ble_eq_true rfl)⟩ hS (fun H1 locs1 hN hS => ?_)
  have hP := hN _ _ _ _ hP
  generalize H1 = H at hP hS ⊢
  refine lv_iload_n hx hb d_Tl_append_7 rfl (lv_at hl 2 rfl) ?_
  refine call_SN (As := [.int (nI mo)]) (rest := []) F (c_Tl_refuseNegative0 l (nI mo) (nI_pos hmo)) km_Tl_49 kt_Tl_refuseNegative k0_Tl kc_Tl_refuseNegative kd_Tl_refuseNegative ⟨(Nat.le_of_ble_eq_true rfl), (Nat.le_of_ble_eq_true rfl)⟩ hl.1 rfl (Nat.le_of_ble_eq_true rfl) d_Tl_append_8 ⟨(Nat.le_of_ble_eq_true rfl), (Nat.le_of_ble_eq_true rfl)⟩ hS (fun H1 locs1 hN hS => ?_)
  have hP := hN _ _ _ _ hP
  generalize H1 = H at hP hS ⊢
  refine lv_iload_n hx hb d_Tl_append_11 rfl (lv_at hl 3 rfl) ?_
  refine lv_iconst (v := nI 0) hx hb d_Tl_append_12 (by decide) ?_
  refine lv_bipush (v := nI 45) hx hb d_Tl_append_13 (by decide) ?_
  refine call_SN (As := [.int (nI k), .int (nI 0), .int (nI 45)]) (rest := []) F (c_Tl_refuseOutside0 l (nI k) (nI 0) (nI 45) (mt (nI_ltI (by omega) (by omega)).mp (by omega)) (mt (nI_ltI (by omega) (by omega)).mp (by omega))) km_Tl_42 kt_Tl_refuseOutside k0_Tl kc_Tl_refuseOutside kd_Tl_refuseOutside ⟨(Nat.le_of_ble_eq_true rfl), (Nat.le_of_ble_eq_true rfl)⟩ hl.1 rfl (Nat.le_of_ble_eq_true rfl) d_Tl_append_15 ⟨(Nat.le_of_ble_eq_true rfl), (Nat.le_of_ble_eq_true rfl)⟩ hS (fun H1 locs1 hN hS => ?_)
  have hP := hN _ _ _ _ hP
  generalize H1 = H at hP hS ⊢
  refine lv_aload_n hx hb d_Tl_append_18 rfl (lv_at hl 0 rfl) ?_
  refine nw_get (D := D) (ci := 4) (C := R_Tl) (T := T_Tl) (N := 3) hx hb hts in_Tl hown hK.k hP (i := 0) (by decide) tl_0 rfl 0 (by decide) (hts _ kf_Tl_14) rfl d_Tl_append_19 ?_
  refine nw_getN (D := D) (ci := 1) (C := R_By) (T := T_By) (N := 2) hx hb hts in_By hown hK.k hP (i := 1) (by decide) tl_1 rfl 1 (by decide) (hK.nest 0 (by decide) rfl) rfl d_Tl_append_22 ?_
  refine lv_iload_n hx hb d_Tl_append_25 rfl (lv_at hl 3 rfl) ?_
  refine lv_iload_n hx hb d_Tl_append_26 rfl (lv_at hl 3 rfl) ?_
  refine lv_sipush (v := nI 1000) hx hb d_Tl_append_27 (by decide) ?_
  refine lv_iadd hx hb d_Tl_append_30 ?_
  refine lv_eqi (nI_add _ _) ?_
  exact esc_S (As := [.int (nI tn), .int (nI k), .int (nI (k + 1000))]) (rest := []) F hX (c_Tl_refuseOutside1 l sa base hl0 (nI tn) (nI k) (nI (k + 1000)) (h.elim (fun h => Or.inl ((nI_ltI (by omega) (by omega)).mpr h)) (fun h => Or.inr ((nI_ltI (by omega) (by omega)).mpr h)))) km_Tl_42 kt_Tl_refuseOutside k0_Tl kc_Tl_refuseOutside kd_Tl_refuseOutside ⟨(Nat.le_of_ble_eq_true rfl), (Nat.le_of_ble_eq_true rfl)⟩ hl.1 rfl (Nat.le_of_ble_eq_true rfl) d_Tl_append_31 ⟨(Nat.le_of_ble_eq_true rfl), (Nat.le_of_ble_eq_true rfl)⟩ hS (na_lo hX hlo) hex hlk (fun t _ hz hk => fin_U hP (nxt_rf hD) hS hz hk) (fun _ h => h) (Nat.le_of_ble_eq_true rfl) (Nat.le_of_ble_eq_true rfl)
set_option maxRecDepth 100000 in
set_option maxHeartbeats 4000000 in
theorem c_Tl_append5 (l : Launch) (D : va_G) (cy : Nat → ClassId) (ad : Nat → Nat) (sa : Nat → Nat) (base : Nat) (hl0 : l.stackTraces = false) (tp rw pt cn er rc re : Nat → Nat) (cg : Nat → Nat → Nat) (tn ln bg cp cb pn : Nat) (dn op w : Bool) (kd mo k : Nat) (hkd1 : 1 ≤ kd) (hkd2 : kd ≤ 15) (hmo : mo < 2 ^ 31) (hk : k ≤ 45) (hkt : k ≤ tn) (htk : tn ≤ k + 1000) : mtU l y_Tl_append b_Tl_append 6 (some .int) RT D cy [.ref (ad 0), .int (nI kd), .int (nI mo), .int (nI k)] ad (tlC cy ad tp tn true rw ln op bg w cp cb pt pn cn cg er rc re) (fun ad' => tlC cy ad' tp tn true rw ln op bg w cp cb pt pn cn cg er rc re) sa base xIS := by
  intro sz
  refine nx_ofW (cc := b_Tl_append) (maxL := 6) (ret := (some .int)) (own := R_Tl) (by decide) (Nat.le_of_ble_eq_true rfl) rfl ?_
  intro p e s m below meth c ls F hr hlk hex hv hl
  obtain ⟨hx, hb, hml, hown, hts⟩ := id F
  obtain ⟨rfl, ⟨hP, hK, hI⟩, hX, hlo⟩ := hv
  have hD : nd (na PT ad s.heap.size) PT ad := nd_self hI
  have hA : ∀ q, s.heap.size ≤ q → na PT ad s.heap.size q := fun q h => Or.inr h
  have hS : va_S (na PT ad s.heap.size) s.heap s.heap [] := va_S.rf
  have hl : lv_has ls 6 [(0, .ref (ad 0)), (1, .int (nI kd)), (2, .int (nI mo)), (3, .int (nI k))] := hl
  refine lv_iload_n hx hb d_Tl_append_0 rfl (lv_at hl 1 rfl) ?_
  refine lv_iconst (v := nI 1) hx hb d_Tl_append_1 (by decide) ?_
  refine lv_bipush (v := nI 15) hx hb d_Tl_append_2 (by decide) ?_
  refine call_SN (As := [.int (nI kd), .int (nI 1), .int (nI 15)]) (rest := []) F (c_Tl_refuseOutside0 l (nI kd) (nI 1) (nI 15) (mt (nI_ltI (by omega) (by omega)).mp (by omega)) (mt (nI_ltI (by omega) (by omega)).mp (by omega))) km_Tl_42 kt_Tl_refuseOutside k0_Tl kc_Tl_refuseOutside kd_Tl_refuseOutside ⟨(Nat.le_of_ble_eq_true rfl), (Nat.le_of_ble_eq_true rfl)⟩ hl.1 rfl (Nat.le_of_ble_eq_true rfl) d_Tl_append_4 ⟨(Nat.le_of_ble_eq_true rfl), (Nat.le_of_ble_eq_true rfl)⟩ hS (fun H1 locs1 hN hS => ?_)
  have hP := hN _ _ _ _ hP
  generalize H1 = H at hP hS ⊢
  refine lv_iload_n hx hb d_Tl_append_7 rfl (lv_at hl 2 rfl) ?_
  refine call_SN (As := [.int (nI mo)]) (rest := []) F (c_Tl_refuseNegative0 l (nI mo) (nI_pos hmo)) km_Tl_49 kt_Tl_refuseNegative k0_Tl kc_Tl_refuseNegative kd_Tl_refuseNegative ⟨(Nat.le_of_ble_eq_true rfl), (Nat.le_of_ble_eq_true rfl)⟩ hl.1 rfl (Nat.le_of_ble_eq_true rfl) d_Tl_append_8 ⟨(Nat.le_of_ble_eq_true rfl), (Nat.le_of_ble_eq_true rfl)⟩ hS (fun H1 locs1 hN hS => ?_)
  have hP := hN _ _ _ _ hP
  generalize H1 = H at hP hS ⊢
  refine lv_iload_n hx hb d_Tl_append_11 rfl (lv_at hl 3 rfl) ?_
  refine lv_iconst (v := nI 0) hx hb d_Tl_append_12 (by decide) ?_
  refine lv_bipush (v := nI 45) hx hb d_Tl_append_13 (by decide) ?_
  refine call_SN (As := [.int (nI k), .int (nI 0), .int (nI 45)]) (rest := []) F (c_Tl_refuseOutside0 l (nI k) (nI 0) (nI 45) (mt (nI_ltI (by omega) (by omega)).mp (by omega)) (mt (nI_ltI (by omega) (by omega)).mp (by omega))) km_Tl_42 kt_Tl_refuseOutside k0_Tl kc_Tl_refuseOutside kd_Tl_refuseOutside ⟨(Nat.le_of_ble_eq_true rfl), (Nat.le_of_ble_eq_true rfl)⟩ hl.1 rfl (Nat.le_of_ble_eq_true rfl) d_Tl_append_15 ⟨(Nat.le_of_ble_eq_true rfl), (Nat.le_of_ble_eq_true rfl)⟩ hS (fun H1 locs1 hN hS => ?_)
  have hP := hN _ _ _ _ hP
  generalize H1 = H at hP hS ⊢
  refine lv_aload_n hx hb d_Tl_append_18 rfl (lv_at hl 0 rfl) ?_
  refine nw_get (D := D) (ci := 4) (C := R_Tl) (T := T_Tl) (N := 3) hx hb hts in_Tl hown hK.k hP (i := 0) (by decide) tl_0 rfl 0 (by decide) (hts _ kf_Tl_14) rfl d_Tl_append_19 ?_
  refine nw_getN (D := D) (ci := 1) (C := R_By) (T := T_By) (N := 2) hx hb hts in_By hown hK.k hP (i := 1) (by decide) tl_1 rfl 1 (by decide) (hK.nest 0 (by decide) rfl) rfl d_Tl_append_22 ?_
  refine lv_iload_n hx hb d_Tl_append_25 rfl (lv_at hl 3 rfl) ?_
  refine lv_iload_n hx hb d_Tl_append_26 rfl (lv_at hl 3 rfl) ?_
  refine lv_sipush (v := nI 1000) hx hb d_Tl_append_27 (by decide) ?_
  refine lv_iadd hx hb d_Tl_append_30 ?_
  refine lv_eqi (nI_add _ _) ?_
  refine call_SN (As := [.int (nI tn), .int (nI k), .int (nI (k + 1000))]) (rest := []) F (c_Tl_refuseOutside0 l (nI tn) (nI k) (nI (k + 1000)) (mt (nI_ltI (by omega) (by omega)).mp (by omega)) (mt (nI_ltI (by omega) (by omega)).mp (by omega))) km_Tl_42 kt_Tl_refuseOutside k0_Tl kc_Tl_refuseOutside kd_Tl_refuseOutside ⟨(Nat.le_of_ble_eq_true rfl), (Nat.le_of_ble_eq_true rfl)⟩ hl.1 rfl (Nat.le_of_ble_eq_true rfl) d_Tl_append_31 ⟨(Nat.le_of_ble_eq_true rfl), (Nat.le_of_ble_eq_true rfl)⟩ hS (fun H1 locs1 hN hS => ?_)
  have hP := hN _ _ _ _ hP
  generalize H1 = H at hP hS ⊢
  refine lv_aload_n hx hb d_Tl_append_34 rfl (lv_at hl 0 rfl) ?_
  exact esc_V (As := []) (rest := []) F hK hX (c_Tl_refuseWhenDown1 l D cy ad sa base hl0 tp rw pt cn er rc re cg tn ln bg cp cb pn false op w) km_Tl_29 ki_Tl_refuseWhenDown ks_Tl_refuseWhenDown k0_Tl kc_Tl_refuseWhenDown kd_Tl_refuseWhenDown ⟨(Nat.le_of_ble_eq_true rfl), (Nat.le_of_ble_eq_true rfl)⟩ (nw_recv hK.k hP (i := 0) (by decide) tl_0 rfl) (hP) (hI) (hlo) hl.1 rfl (Nat.le_of_ble_eq_true rfl) d_Tl_append_35 ⟨(Nat.le_of_ble_eq_true rfl), (Nat.le_of_ble_eq_true rfl)⟩ hS (na_lo hX hlo) hex hlk (fun t _ hz hk => fin_U hP (nxt_rf hD) hS hz hk) (fun _ h => h) (Nat.le_of_ble_eq_true rfl) (Nat.le_of_ble_eq_true rfl)
set_option maxRecDepth 100000 in
set_option maxHeartbeats 4000000 in
theorem c_Tl_append6 (l : Launch) (D : va_G) (cy : Nat → ClassId) (ad : Nat → Nat) (sa : Nat → Nat) (base : Nat) (hl0 : l.stackTraces = false) (tp rw pt cn er rc re : Nat → Nat) (cg : Nat → Nat → Nat) (tn ln bg cp cb pn : Nat) (dn op w : Bool) (kd mo k : Nat) (hkd1 : 1 ≤ kd) (hkd2 : kd ≤ 15) (hmo : mo < 2 ^ 31) (hk : k ≤ 45) (hkt : k ≤ tn) (htk : tn ≤ k + 1000) (HL : ln ≤ 24) (HR : ∀ i, i < ln → rw i < 24) (HC : ∀ b, b < 24 → cn b < 2 ^ 16) (HG : ∀ b, b < 24 → ∀ j, j < cn b → cg b j < 256) (HQ : ∀ b, b < 24 → rc b < 2 ^ 16 ∧ re b < 2 ^ 16) (hrm : (op && (decide (0 < ln) && decide (re (rw (ln - 1)) + (9 + tn) ≤ 2046))) = false) (h24 : ln = 24) : mtU l y_Tl_append b_Tl_append 6 (some .int) RT D cy [.ref (ad 0), .int (nI kd), .int (nI mo), .int (nI k)] ad (tlC cy ad tp tn false rw ln op bg w cp cb pt pn cn cg er rc re) (fun ad' => tlC cy ad' tp 0 false rw ln op bg w cp cb pt pn cn cg er rc re) sa base xIB := by
  intro sz
  refine nx_ofW (cc := b_Tl_append) (maxL := 6) (ret := (some .int)) (own := R_Tl) (by decide) (Nat.le_of_ble_eq_true rfl) rfl ?_
  intro p e s m below meth c ls F hr hlk hex hv hl
  obtain ⟨hx, hb, hml, hown, hts⟩ := id F
  obtain ⟨rfl, ⟨hP, hK, hI⟩, hX, hlo⟩ := hv
  have hD : nd (na PT ad s.heap.size) PT ad := nd_self hI
  have hA : ∀ q, s.heap.size ≤ q → na PT ad s.heap.size q := fun q h => Or.inr h
  have hS : va_S (na PT ad s.heap.size) s.heap s.heap [] := va_S.rf
  have hl : lv_has ls 6 [(0, .ref (ad 0)), (1, .int (nI kd)), (2, .int (nI mo)), (3, .int (nI k))] := hl
  refine lv_iload_n hx hb d_Tl_append_0 rfl (lv_at hl 1 rfl) ?_
  refine lv_iconst (v := nI 1) hx hb d_Tl_append_1 (by decide) ?_
  refine lv_bipush (v := nI 15) hx hb d_Tl_append_2 (by decide) ?_
  refine call_SN (As := [.int (nI kd), .int (nI 1), .int (nI 15)]) (rest := []) F (c_Tl_refuseOutside0 l (nI kd) (nI 1) (nI 15) (mt (nI_ltI (by omega) (by omega)).mp (by omega)) (mt (nI_ltI (by omega) (by omega)).mp (by omega))) km_Tl_42 kt_Tl_refuseOutside k0_Tl kc_Tl_refuseOutside kd_Tl_refuseOutside ⟨(Nat.le_of_ble_eq_true rfl), (Nat.le_of_ble_eq_true rfl)⟩ hl.1 rfl (Nat.le_of_ble_eq_true rfl) d_Tl_append_4 ⟨(Nat.le_of_ble_eq_true rfl), (Nat.le_of_ble_eq_true rfl)⟩ hS (fun H1 locs1 hN hS => ?_)
  have hP := hN _ _ _ _ hP
  generalize H1 = H at hP hS ⊢
  refine lv_iload_n hx hb d_Tl_append_7 rfl (lv_at hl 2 rfl) ?_
  refine call_SN (As := [.int (nI mo)]) (rest := []) F (c_Tl_refuseNegative0 l (nI mo) (nI_pos hmo)) km_Tl_49 kt_Tl_refuseNegative k0_Tl kc_Tl_refuseNegative kd_Tl_refuseNegative ⟨(Nat.le_of_ble_eq_true rfl), (Nat.le_of_ble_eq_true rfl)⟩ hl.1 rfl (Nat.le_of_ble_eq_true rfl) d_Tl_append_8 ⟨(Nat.le_of_ble_eq_true rfl), (Nat.le_of_ble_eq_true rfl)⟩ hS (fun H1 locs1 hN hS => ?_)
  have hP := hN _ _ _ _ hP
  generalize H1 = H at hP hS ⊢
  refine lv_iload_n hx hb d_Tl_append_11 rfl (lv_at hl 3 rfl) ?_
  refine lv_iconst (v := nI 0) hx hb d_Tl_append_12 (by decide) ?_
  refine lv_bipush (v := nI 45) hx hb d_Tl_append_13 (by decide) ?_
  refine call_SN (As := [.int (nI k), .int (nI 0), .int (nI 45)]) (rest := []) F (c_Tl_refuseOutside0 l (nI k) (nI 0) (nI 45) (mt (nI_ltI (by omega) (by omega)).mp (by omega)) (mt (nI_ltI (by omega) (by omega)).mp (by omega))) km_Tl_42 kt_Tl_refuseOutside k0_Tl kc_Tl_refuseOutside kd_Tl_refuseOutside ⟨(Nat.le_of_ble_eq_true rfl), (Nat.le_of_ble_eq_true rfl)⟩ hl.1 rfl (Nat.le_of_ble_eq_true rfl) d_Tl_append_15 ⟨(Nat.le_of_ble_eq_true rfl), (Nat.le_of_ble_eq_true rfl)⟩ hS (fun H1 locs1 hN hS => ?_)
  have hP := hN _ _ _ _ hP
  generalize H1 = H at hP hS ⊢
  refine lv_aload_n hx hb d_Tl_append_18 rfl (lv_at hl 0 rfl) ?_
  refine nw_get (D := D) (ci := 4) (C := R_Tl) (T := T_Tl) (N := 3) hx hb hts in_Tl hown hK.k hP (i := 0) (by decide) tl_0 rfl 0 (by decide) (hts _ kf_Tl_14) rfl d_Tl_append_19 ?_
  refine nw_getN (D := D) (ci := 1) (C := R_By) (T := T_By) (N := 2) hx hb hts in_By hown hK.k hP (i := 1) (by decide) tl_1 rfl 1 (by decide) (hK.nest 0 (by decide) rfl) rfl d_Tl_append_22 ?_
  refine lv_iload_n hx hb d_Tl_append_25 rfl (lv_at hl 3 rfl) ?_
  refine lv_iload_n hx hb d_Tl_append_26 rfl (lv_at hl 3 rfl) ?_
  refine lv_sipush (v := nI 1000) hx hb d_Tl_append_27 (by decide) ?_
  refine lv_iadd hx hb d_Tl_append_30 ?_
  refine lv_eqi (nI_add _ _) ?_
  refine call_SN (As := [.int (nI tn), .int (nI k), .int (nI (k + 1000))]) (rest := []) F (c_Tl_refuseOutside0 l (nI tn) (nI k) (nI (k + 1000)) (mt (nI_ltI (by omega) (by omega)).mp (by omega)) (mt (nI_ltI (by omega) (by omega)).mp (by omega))) km_Tl_42 kt_Tl_refuseOutside k0_Tl kc_Tl_refuseOutside kd_Tl_refuseOutside ⟨(Nat.le_of_ble_eq_true rfl), (Nat.le_of_ble_eq_true rfl)⟩ hl.1 rfl (Nat.le_of_ble_eq_true rfl) d_Tl_append_31 ⟨(Nat.le_of_ble_eq_true rfl), (Nat.le_of_ble_eq_true rfl)⟩ hS (fun H1 locs1 hN hS => ?_)
  have hP := hN _ _ _ _ hP
  generalize H1 = H at hP hS ⊢
  refine lv_aload_n hx hb d_Tl_append_34 rfl (lv_at hl 0 rfl) ?_
  refine call_N (As := []) (rest := []) F hK (c_Tl_refuseWhenDown0 l D cy ad tp rw pt cn er rc re cg tn ln bg cp cb pn false op w) km_Tl_29 ki_Tl_refuseWhenDown ks_Tl_refuseWhenDown k0_Tl kc_Tl_refuseWhenDown kd_Tl_refuseWhenDown ⟨(Nat.le_of_ble_eq_true rfl), (Nat.le_of_ble_eq_true rfl)⟩ (nw_recv hK.k hP (i := 0) (by decide) tl_0 rfl) (hP) (hI) hl.1 rfl (Nat.le_of_ble_eq_true rfl) d_Tl_append_35 ⟨(Nat.le_of_ble_eq_true rfl), (Nat.le_of_ble_eq_true rfl)⟩ hS (fun H1 locs1 hN hS => ?_)
  have hP := hN _ _ _ hP
  generalize H1 = H at hP hS ⊢
  refine lv_aload_n hx hb d_Tl_append_38 rfl (lv_at hl 0 rfl) ?_
  refine nw_get (D := D) (ci := 4) (C := R_Tl) (T := T_Tl) (N := 3) hx hb hts in_Tl hown hK.k hP (i := 0) (by decide) tl_0 rfl 1 (by decide) (hts _ kf_Tl_21) rfl d_Tl_append_39 ?_
  refine lv_bipush (v := nI 9) hx hb d_Tl_append_42 (by decide) ?_
  refine lv_aload_n hx hb d_Tl_append_44 rfl (lv_at hl 0 rfl) ?_
  refine nw_get (D := D) (ci := 4) (C := R_Tl) (T := T_Tl) (N := 3) hx hb hts in_Tl hown hK.k hP (i := 0) (by decide) tl_0 rfl 0 (by decide) (hts _ kf_Tl_14) rfl d_Tl_append_45 ?_
  refine nw_getN (D := D) (ci := 1) (C := R_By) (T := T_By) (N := 2) hx hb hts in_By hown hK.k hP (i := 1) (by decide) tl_1 rfl 1 (by decide) (hK.nest 0 (by decide) rfl) rfl d_Tl_append_48 ?_
  refine lv_iadd hx hb d_Tl_append_51 ?_
  refine lv_eqi (nI_add _ _) ?_
  refine call_R (As := [.int (nI (9 + tn))]) (rest := []) F hK (c_Lg_hasRoom l D cy ad (9 + tn) tp rw pt cn er rc re cg tn ln bg cp cb pn false op w HL HR HC HG HQ (by omega)) km_Tl_52 ki_Lg_hasRoom ks_Lg_hasRoom k0_Lg kc_Lg_hasRoom kd_Lg_hasRoom ⟨Nat.le_of_ble_eq_true rfl, Nat.le_of_ble_eq_true rfl⟩ (nw_recv hK.k hP (i := 3) (by decide) tl_3 rfl) (hP) (hI) hl.1 rfl (Nat.le_of_ble_eq_true rfl) d_Tl_append_52 ⟨(Nat.le_of_ble_eq_true rfl), (Nat.le_of_ble_eq_true rfl)⟩ hS (fun H1 locs1 hN hS => ?_)
  have hP := hN _ _ _ hP
  generalize H1 = H at hP hS ⊢
  refine lv_eqi (y := bI false) (by rw [hrm]) ?_
  refine lv_if_ne (tgt := 62) hx hb d_Tl_append_55 (by decide) (fun c55 => absurd (show bI false = 0 by decide) c55) (fun c55 => ?_)
  refine lv_iconst (v := nI 1) hx hb d_Tl_append_58 (by decide) ?_
  refine lv_goto (tgt := 63) hx hb d_Tl_append_59 (by decide) ?_
  refine lv_istore (lv' := [(4, .int (nI 1)), (0, .ref (ad 0)), (1, .int (nI kd)), (2, .int (nI mo)), (3, .int (nI k))]) hx hb d_Tl_append_63 hl (by decide) rfl (fun ls hl => ?_)
  refine lv_iload hx hb d_Tl_append_65 (lv_at hl 0 rfl) ?_
  refine lv_if_eq (tgt := 100) hx hb d_Tl_append_67 (by decide) (fun c67 => absurd c67 (show ¬ nI 1 = 0 by decide)) (fun c67 => ?_)
  refine lv_aload_n hx hb d_Tl_append_70 rfl (lv_at hl 1 rfl) ?_
  refine nw_get (D := D) (ci := 4) (C := R_Tl) (T := T_Tl) (N := 3) hx hb hts in_Tl hown hK.k hP (i := 0) (by decide) tl_0 rfl 1 (by decide) (hts _ kf_Tl_21) rfl d_Tl_append_71 ?_
  refine nw_getN (D := D) (ci := 3) (C := R_Lg) (T := T_Lg) (N := 7) hx hb hts in_Lg hown hK.k hP (i := 3) (by decide) tl_3 rfl 2 (by decide) (hK.nest 8 (by decide) rfl) rfl d_Tl_append_74 ?_
  refine lv_bipush (v := nI 24) hx hb d_Tl_append_77 (by decide) ?_
  refine lv_icmp_ne (tgt := 100) hx hb d_Tl_append_79 (by decide) (fun c79 => absurd ((nI_eq (by omega) (by omega)).mpr (by omega)) c79) (fun c79 => ?_)
  refine lv_aload_n hx hb d_Tl_append_82 rfl (lv_at hl 1 rfl) ?_
  refine nw_get (D := D) (ci := 4) (C := R_Tl) (T := T_Tl) (N := 3) hx hb hts in_Tl hown hK.k hP (i := 0) (by decide) tl_0 rfl 0 (by decide) (hts _ kf_Tl_14) rfl d_Tl_append_83 ?_
  refine lv_iconst (v := nI 0) hx hb d_Tl_append_86 (by decide) ?_
  refine nw_putN (D := D) (ci := 1) (C := R_By) (T := T_By) (N := 2) hx hb hts in_By ty_By tk_By nm_By hown hK.k hP hD hS (i := 1) (by decide) tl_1 rfl 1 (by decide) (hK.nest 0 (by decide) rfl) rfl rfl rfl (Nat.le_of_ble_eq_true rfl) d_Tl_append_87 (fun H locs hP hS hz hq => ?_)
  have hP : nw D vcl PT ad (tlC cy ad tp 0 false rw ln op bg w cp cb pt pn cn cg er rc re) H := nw_congr hP (tlu_tn)
  exact thr_IB F hl0 hX (List.mem_of_getElem? (i := 4) rfl) hS (na_lo hX hlo) hl.1 d_Tl_append_90 d_Tl_append_93 d_Tl_append_94 d_Tl_append_96 d_Tl_append_99 hex ⟨(Nat.le_of_ble_eq_true rfl), (Nat.le_of_ble_eq_true rfl)⟩ (Nat.le_of_ble_eq_true rfl) (Nat.le_of_ble_eq_true rfl) hlk (fun t _ hz hk => fin_U hP (nxt_rf hD) hS hz hk) hS.2.2 (Nat.le_of_ble_eq_true rfl) (Nat.le_of_ble_eq_true rfl)
set_option maxRecDepth 100000 in
set_option maxHeartbeats 4000000 in
theorem c_Tl_append7 (l : Launch) (D : va_G) (cy : Nat → ClassId) (ad : Nat → Nat) (sa : Nat → Nat) (base : Nat) (hl0 : l.stackTraces = false) (tp rw pt cn er rc re : Nat → Nat) (cg : Nat → Nat → Nat) (tn ln bg cp cb pn : Nat) (dn op w : Bool) (kd mo k : Nat) (hkd1 : 1 ≤ kd) (hkd2 : kd ≤ 15) (hmo : mo < 2 ^ 31) (hk : k ≤ 45) (hkt : k ≤ tn) (htk : tn ≤ k + 1000) (HL : ln ≤ 24) (HR : ∀ i, i < ln → rw i < 24) (HC : ∀ b, b < 24 → cn b < 2 ^ 16) (HG : ∀ b, b < 24 → ∀ j, j < cn b → cg b j < 256) (HQ : ∀ b, b < 24 → rc b < 2 ^ 16 ∧ re b < 2 ^ 16) (hrm : (op && (decide (0 < ln) && decide (re (rw (ln - 1)) + (9 + tn) ≤ 2046))) = true) (hcp : cp < 2 ^ 31) (hcb : cb < 2 ^ 31) (hln : 0 < ln) (hop : op = true) (hroom : re (rw (ln - 1)) + (9 + tn) ≤ 2046) (hcn : 2046 ≤ cn (rw (ln - 1))) (h255 : ∀ j, j < 9 + tn → cg (rw (ln - 1)) (re (rw (ln - 1)) + j) = 255) (htp : ∀ j, j < tn → tp j < 256) (hdn : cutN w cp cb (9 + tn) ≠ 9 + tn) : mtU l y_Tl_append b_Tl_append 6 (some .int) RT D cy [.ref (ad 0), .int (nI kd), .int (nI mo), .int (nI k)] ad (tlC cy ad tp tn false rw ln op bg w cp cb pt pn cn cg er rc re) (fun ad' => tlC cy ad' tp 0 true rw ln op bg (cutW w cp) (cutP w cp) cb (RB pt kd mo k tn tp) (9 + tn) cn (va_up cg (rw (ln - 1)) (upN (cg (rw (ln - 1))) (re (rw (ln - 1))) (RB pt kd mo k tn tp) (cutN w cp cb (9 + tn)))) er rc re) sa base xIS := by
  intro sz
  refine nx_ofW (cc := b_Tl_append) (maxL := 6) (ret := (some .int)) (own := R_Tl) (by decide) (Nat.le_of_ble_eq_true rfl) rfl ?_
  intro p e s m below meth c ls F hr hlk hex hv hl
  obtain ⟨hx, hb, hml, hown, hts⟩ := id F
  obtain ⟨rfl, ⟨hP, hK, hI⟩, hX, hlo⟩ := hv
  have hD : nd (na PT ad s.heap.size) PT ad := nd_self hI
  have hA : ∀ q, s.heap.size ≤ q → na PT ad s.heap.size q := fun q h => Or.inr h
  have hS : va_S (na PT ad s.heap.size) s.heap s.heap [] := va_S.rf
  have hl : lv_has ls 6 [(0, .ref (ad 0)), (1, .int (nI kd)), (2, .int (nI mo)), (3, .int (nI k))] := hl
  refine lv_iload_n hx hb d_Tl_append_0 rfl (lv_at hl 1 rfl) ?_
  refine lv_iconst (v := nI 1) hx hb d_Tl_append_1 (by decide) ?_
  refine lv_bipush (v := nI 15) hx hb d_Tl_append_2 (by decide) ?_
  refine call_SN (As := [.int (nI kd), .int (nI 1), .int (nI 15)]) (rest := []) F (c_Tl_refuseOutside0 l (nI kd) (nI 1) (nI 15) (mt (nI_ltI (by omega) (by omega)).mp (by omega)) (mt (nI_ltI (by omega) (by omega)).mp (by omega))) km_Tl_42 kt_Tl_refuseOutside k0_Tl kc_Tl_refuseOutside kd_Tl_refuseOutside ⟨(Nat.le_of_ble_eq_true rfl), (Nat.le_of_ble_eq_true rfl)⟩ hl.1 rfl (Nat.le_of_ble_eq_true rfl) d_Tl_append_4 ⟨(Nat.le_of_ble_eq_true rfl), (Nat.le_of_ble_eq_true rfl)⟩ hS (fun H1 locs1 hN hS => ?_)
  have hP := hN _ _ _ _ hP
  generalize H1 = H at hP hS ⊢
  refine lv_iload_n hx hb d_Tl_append_7 rfl (lv_at hl 2 rfl) ?_
  refine call_SN (As := [.int (nI mo)]) (rest := []) F (c_Tl_refuseNegative0 l (nI mo) (nI_pos hmo)) km_Tl_49 kt_Tl_refuseNegative k0_Tl kc_Tl_refuseNegative kd_Tl_refuseNegative ⟨(Nat.le_of_ble_eq_true rfl), (Nat.le_of_ble_eq_true rfl)⟩ hl.1 rfl (Nat.le_of_ble_eq_true rfl) d_Tl_append_8 ⟨(Nat.le_of_ble_eq_true rfl), (Nat.le_of_ble_eq_true rfl)⟩ hS (fun H1 locs1 hN hS => ?_)
  have hP := hN _ _ _ _ hP
  generalize H1 = H at hP hS ⊢
  refine lv_iload_n hx hb d_Tl_append_11 rfl (lv_at hl 3 rfl) ?_
  refine lv_iconst (v := nI 0) hx hb d_Tl_append_12 (by decide) ?_
  refine lv_bipush (v := nI 45) hx hb d_Tl_append_13 (by decide) ?_
  refine call_SN (As := [.int (nI k), .int (nI 0), .int (nI 45)]) (rest := []) F (c_Tl_refuseOutside0 l (nI k) (nI 0) (nI 45) (mt (nI_ltI (by omega) (by omega)).mp (by omega)) (mt (nI_ltI (by omega) (by omega)).mp (by omega))) km_Tl_42 kt_Tl_refuseOutside k0_Tl kc_Tl_refuseOutside kd_Tl_refuseOutside ⟨(Nat.le_of_ble_eq_true rfl), (Nat.le_of_ble_eq_true rfl)⟩ hl.1 rfl (Nat.le_of_ble_eq_true rfl) d_Tl_append_15 ⟨(Nat.le_of_ble_eq_true rfl), (Nat.le_of_ble_eq_true rfl)⟩ hS (fun H1 locs1 hN hS => ?_)
  have hP := hN _ _ _ _ hP
  generalize H1 = H at hP hS ⊢
  refine lv_aload_n hx hb d_Tl_append_18 rfl (lv_at hl 0 rfl) ?_
  refine nw_get (D := D) (ci := 4) (C := R_Tl) (T := T_Tl) (N := 3) hx hb hts in_Tl hown hK.k hP (i := 0) (by decide) tl_0 rfl 0 (by decide) (hts _ kf_Tl_14) rfl d_Tl_append_19 ?_
  refine nw_getN (D := D) (ci := 1) (C := R_By) (T := T_By) (N := 2) hx hb hts in_By hown hK.k hP (i := 1) (by decide) tl_1 rfl 1 (by decide) (hK.nest 0 (by decide) rfl) rfl d_Tl_append_22 ?_
  refine lv_iload_n hx hb d_Tl_append_25 rfl (lv_at hl 3 rfl) ?_
  refine lv_iload_n hx hb d_Tl_append_26 rfl (lv_at hl 3 rfl) ?_
  refine lv_sipush (v := nI 1000) hx hb d_Tl_append_27 (by decide) ?_
  refine lv_iadd hx hb d_Tl_append_30 ?_
  refine lv_eqi (nI_add _ _) ?_
  refine call_SN (As := [.int (nI tn), .int (nI k), .int (nI (k + 1000))]) (rest := []) F (c_Tl_refuseOutside0 l (nI tn) (nI k) (nI (k + 1000)) (mt (nI_ltI (by omega) (by omega)).mp (by omega)) (mt (nI_ltI (by omega) (by omega)).mp (by omega))) km_Tl_42 kt_Tl_refuseOutside k0_Tl kc_Tl_refuseOutside kd_Tl_refuseOutside ⟨(Nat.le_of_ble_eq_true rfl), (Nat.le_of_ble_eq_true rfl)⟩ hl.1 rfl (Nat.le_of_ble_eq_true rfl) d_Tl_append_31 ⟨(Nat.le_of_ble_eq_true rfl), (Nat.le_of_ble_eq_true rfl)⟩ hS (fun H1 locs1 hN hS => ?_)
  have hP := hN _ _ _ _ hP
  generalize H1 = H at hP hS ⊢
  refine lv_aload_n hx hb d_Tl_append_34 rfl (lv_at hl 0 rfl) ?_
  refine call_N (As := []) (rest := []) F hK (c_Tl_refuseWhenDown0 l D cy ad tp rw pt cn er rc re cg tn ln bg cp cb pn false op w) km_Tl_29 ki_Tl_refuseWhenDown ks_Tl_refuseWhenDown k0_Tl kc_Tl_refuseWhenDown kd_Tl_refuseWhenDown ⟨(Nat.le_of_ble_eq_true rfl), (Nat.le_of_ble_eq_true rfl)⟩ (nw_recv hK.k hP (i := 0) (by decide) tl_0 rfl) (hP) (hI) hl.1 rfl (Nat.le_of_ble_eq_true rfl) d_Tl_append_35 ⟨(Nat.le_of_ble_eq_true rfl), (Nat.le_of_ble_eq_true rfl)⟩ hS (fun H1 locs1 hN hS => ?_)
  have hP := hN _ _ _ hP
  generalize H1 = H at hP hS ⊢
  refine lv_aload_n hx hb d_Tl_append_38 rfl (lv_at hl 0 rfl) ?_
  refine nw_get (D := D) (ci := 4) (C := R_Tl) (T := T_Tl) (N := 3) hx hb hts in_Tl hown hK.k hP (i := 0) (by decide) tl_0 rfl 1 (by decide) (hts _ kf_Tl_21) rfl d_Tl_append_39 ?_
  refine lv_bipush (v := nI 9) hx hb d_Tl_append_42 (by decide) ?_
  refine lv_aload_n hx hb d_Tl_append_44 rfl (lv_at hl 0 rfl) ?_
  refine nw_get (D := D) (ci := 4) (C := R_Tl) (T := T_Tl) (N := 3) hx hb hts in_Tl hown hK.k hP (i := 0) (by decide) tl_0 rfl 0 (by decide) (hts _ kf_Tl_14) rfl d_Tl_append_45 ?_
  refine nw_getN (D := D) (ci := 1) (C := R_By) (T := T_By) (N := 2) hx hb hts in_By hown hK.k hP (i := 1) (by decide) tl_1 rfl 1 (by decide) (hK.nest 0 (by decide) rfl) rfl d_Tl_append_48 ?_
  refine lv_iadd hx hb d_Tl_append_51 ?_
  refine lv_eqi (nI_add _ _) ?_
  refine call_R (As := [.int (nI (9 + tn))]) (rest := []) F hK (c_Lg_hasRoom l D cy ad (9 + tn) tp rw pt cn er rc re cg tn ln bg cp cb pn false op w HL HR HC HG HQ (by omega)) km_Tl_52 ki_Lg_hasRoom ks_Lg_hasRoom k0_Lg kc_Lg_hasRoom kd_Lg_hasRoom ⟨Nat.le_of_ble_eq_true rfl, Nat.le_of_ble_eq_true rfl⟩ (nw_recv hK.k hP (i := 3) (by decide) tl_3 rfl) (hP) (hI) hl.1 rfl (Nat.le_of_ble_eq_true rfl) d_Tl_append_52 ⟨(Nat.le_of_ble_eq_true rfl), (Nat.le_of_ble_eq_true rfl)⟩ hS (fun H1 locs1 hN hS => ?_)
  have hP := hN _ _ _ hP
  generalize H1 = H at hP hS ⊢
  refine lv_eqi (y := bI true) (by rw [hrm]) ?_
  refine lv_if_ne (tgt := 62) hx hb d_Tl_append_55 (by decide) (fun c55 => ?_) (fun c55 => absurd c55 (by decide))
  refine lv_iconst (v := nI 0) hx hb d_Tl_append_62 (by decide) ?_
  refine lv_istore (lv' := [(4, .int (nI 0)), (0, .ref (ad 0)), (1, .int (nI kd)), (2, .int (nI mo)), (3, .int (nI k))]) hx hb d_Tl_append_63 hl (by decide) rfl (fun ls hl => ?_)
  refine lv_iload hx hb d_Tl_append_65 (lv_at hl 0 rfl) ?_
  refine lv_if_eq (tgt := 100) hx hb d_Tl_append_67 (by decide) (fun c67 => ?_) (fun c67 => absurd (show nI 0 = 0 by decide) c67)
  refine lv_iload hx hb d_Tl_append_100 (lv_at hl 0 rfl) ?_
  refine lv_if_eq (tgt := 115) hx hb d_Tl_append_102 (by decide) (fun c102 => ?_) (fun c102 => absurd (show nI 0 = 0 by decide) c102)
  refine lv_aload_n hx hb d_Tl_append_115 rfl (lv_at hl 1 rfl) ?_
  refine nw_get (D := D) (ci := 4) (C := R_Tl) (T := T_Tl) (N := 3) hx hb hts in_Tl hown hK.k hP (i := 0) (by decide) tl_0 rfl 1 (by decide) (hts _ kf_Tl_21) rfl d_Tl_append_116 ?_
  refine lv_iload_n hx hb d_Tl_append_119 rfl (lv_at hl 2 rfl) ?_
  refine lv_iload_n hx hb d_Tl_append_120 rfl (lv_at hl 3 rfl) ?_
  refine lv_iload_n hx hb d_Tl_append_121 rfl (lv_at hl 4 rfl) ?_
  refine lv_aload_n hx hb d_Tl_append_122 rfl (lv_at hl 1 rfl) ?_
  refine nw_get (D := D) (ci := 4) (C := R_Tl) (T := T_Tl) (N := 3) hx hb hts in_Tl hown hK.k hP (i := 0) (by decide) tl_0 rfl 0 (by decide) (hts _ kf_Tl_14) rfl d_Tl_append_123 ?_
  refine call_I (As := [.int (nI kd), .int (nI mo), .int (nI k), .ref (ad 1)]) (rest := []) F hK (c_Lg_writeRecord0 l D cy ad kd mo k tp rw pt cn er rc re cg tn ln bg cp cb pn false op w HL HR HC HG HQ hcp hcb hln hop hroom hcn h255 (by omega) (by omega) hkt (by omega) hmo htp hdn) km_Tl_68 ki_Lg_writeRecord ks_Lg_writeRecord k0_Lg kc_Lg_writeRecord kd_Lg_writeRecord ⟨Nat.le_of_ble_eq_true rfl, Nat.le_of_ble_eq_true rfl⟩ (nw_recv hK.k hP (i := 3) (by decide) tl_3 rfl) (hP) (hI) hl.1 rfl (Nat.le_of_ble_eq_true rfl) d_Tl_append_126 ⟨(Nat.le_of_ble_eq_true rfl), (Nat.le_of_ble_eq_true rfl)⟩ hS (na_le hS) (fun H1 locs1 hP1 hk1 hS => ?_)
  have hP : nw D vcl PT ad (tlC cy ad tp tn false rw ln op bg (cutW w cp) (cutP w cp) cb (RB pt kd mo k tn tp) (9 + tn) cn (va_up cg (rw (ln - 1)) (upN (cg (rw (ln - 1))) (re (rw (ln - 1))) (RB pt kd mo k tn tp) (cutN w cp cb (9 + tn)))) er rc re) H1 := hP1
  generalize H1 = H at hP hS ⊢
  refine lv_if_eq (tgt := 136) hx hb d_Tl_append_129 (by decide) (fun c129 => ?_) (fun c129 => absurd (show bI false = 0 by decide) c129)
  refine lv_iconst (v := nI 0) hx hb d_Tl_append_136 (by decide) ?_
  refine lv_istore (lv' := [(5, .int (nI 0)), (4, .int (nI 0)), (0, .ref (ad 0)), (1, .int (nI kd)), (2, .int (nI mo)), (3, .int (nI k))]) hx hb d_Tl_append_137 hl (by decide) rfl (fun ls hl => ?_)
  refine lv_aload_n hx hb d_Tl_append_139 rfl (lv_at hl 2 rfl) ?_
  refine nw_get (D := D) (ci := 4) (C := R_Tl) (T := T_Tl) (N := 3) hx hb hts in_Tl hown hK.k hP (i := 0) (by decide) tl_0 rfl 0 (by decide) (hts _ kf_Tl_14) rfl d_Tl_append_140 ?_
  refine lv_iconst (v := nI 0) hx hb d_Tl_append_143 (by decide) ?_
  refine nw_putN (D := D) (ci := 1) (C := R_By) (T := T_By) (N := 2) hx hb hts in_By ty_By tk_By nm_By hown hK.k hP hD hS (i := 1) (by decide) tl_1 rfl 1 (by decide) (hK.nest 0 (by decide) rfl) rfl rfl rfl (Nat.le_of_ble_eq_true rfl) d_Tl_append_144 (fun H locs hP hS hz hq => ?_)
  have hP : nw D vcl PT ad (tlC cy ad tp 0 false rw ln op bg (cutW w cp) (cutP w cp) cb (RB pt kd mo k tn tp) (9 + tn) cn (va_up cg (rw (ln - 1)) (upN (cg (rw (ln - 1))) (re (rw (ln - 1))) (RB pt kd mo k tn tp) (cutN w cp cb (9 + tn)))) er rc re) H := nw_congr hP (tlu_tn)
  refine lv_iload hx hb d_Tl_append_147 (lv_at hl 0 rfl) ?_
  refine lv_if_ne (tgt := 167) hx hb d_Tl_append_149 (by decide) (fun c149 => absurd (show nI 0 = 0 by decide) c149) (fun c149 => ?_)
  refine lv_aload_n hx hb d_Tl_append_152 rfl (lv_at hl 2 rfl) ?_
  refine lv_iconst (v := bI true) hx hb d_Tl_append_153 (by decide) ?_
  refine nw_put (D := D) (ci := 4) (C := R_Tl) (T := T_Tl) (N := 3) hx hb hts in_Tl ty_Tl tk_Tl nm_Tl hown hK.k hP hD hS (i := 0) (by decide) tl_0 rfl 2 (by decide) (hts _ kf_Tl_25) rfl (bI_nar _) (bI_fit _) (Nat.le_of_ble_eq_true rfl) d_Tl_append_154 (fun H locs hP hS hz hq => ?_)
  have hP : nw D vcl PT ad (tlC cy ad tp 0 true rw ln op bg (cutW w cp) (cutP w cp) cb (RB pt kd mo k tn tp) (9 + tn) cn (va_up cg (rw (ln - 1)) (upN (cg (rw (ln - 1))) (re (rw (ln - 1))) (RB pt kd mo k tn tp) (cutN w cp cb (9 + tn)))) er rc re) H := nw_congr hP (tlu_dn)
  exact thr_IS F hl0 hX (List.mem_of_getElem? (i := 5) rfl) hS (na_lo hX hlo) hl.1 d_Tl_append_157 d_Tl_append_160 d_Tl_append_161 d_Tl_append_163 d_Tl_append_166 hex ⟨(Nat.le_of_ble_eq_true rfl), (Nat.le_of_ble_eq_true rfl)⟩ (Nat.le_of_ble_eq_true rfl) (Nat.le_of_ble_eq_true rfl) hlk (fun t _ hz hk => fin_U hP (nxt_rf hD) hS hz hk) hS.2.2 (Nat.le_of_ble_eq_true rfl) (Nat.le_of_ble_eq_true rfl)
set_option maxRecDepth 100000 in
set_option maxHeartbeats 4000000 in
theorem c_Tl_append8 (l : Launch) (D : va_G) (cy : Nat → ClassId) (ad : Nat → Nat) (tp rw pt cn er rc re : Nat → Nat) (cg : Nat → Nat → Nat) (tn ln bg cp cb pn : Nat) (dn op w : Bool) (kd mo k : Nat) (hkd1 : 1 ≤ kd) (hkd2 : kd ≤ 15) (hmo : mo < 2 ^ 31) (hk : k ≤ 45) (hkt : k ≤ tn) (htk : tn ≤ k + 1000) (HL : ln ≤ 24) (HR : ∀ i, i < ln → rw i < 24) (HC : ∀ b, b < 24 → cn b < 2 ^ 16) (HG : ∀ b, b < 24 → ∀ j, j < cn b → cg b j < 256) (HQ : ∀ b, b < 24 → rc b < 2 ^ 16 ∧ re b < 2 ^ 16) (hrm : (op && (decide (0 < ln) && decide (re (rw (ln - 1)) + (9 + tn) ≤ 2046))) = true) (hcp : cp < 2 ^ 31) (hcb : cb < 2 ^ 31) (hln : 0 < ln) (hop : op = true) (hroom : re (rw (ln - 1)) + (9 + tn) ≤ 2046) (hcn : 2046 ≤ cn (rw (ln - 1))) (h255 : ∀ j, j < 9 + tn → cg (rw (ln - 1)) (re (rw (ln - 1)) + j) = 255) (htp : ∀ j, j < tn → tp j < 256) (hdn : cutN w cp cb (9 + tn) = 9 + tn) : mtX l y_Tl_append b_Tl_append 6 (some .int) RT D cy [.ref (ad 0), .int (nI kd), .int (nI mo), .int (nI k)] ad (tlC cy ad tp tn false rw ln op bg w cp cb pt pn cn cg er rc re) (fun ad' => tlC cy ad' tp 0 false rw ln op bg (cutW w cp) (cutP w cp) cb (RB pt kd mo k tn tp) (9 + tn) cn (va_up cg (rw (ln - 1)) (upN (cg (rw (ln - 1))) (re (rw (ln - 1))) (RB pt kd mo k tn tp) (9 + tn))) er (va_up rc (rw (ln - 1)) (rc (rw (ln - 1)) + 1)) (va_up re (rw (ln - 1)) (re (rw (ln - 1)) + (9 + tn)))) (nI (rc (rw (ln - 1)) + 1)) := by
  intro sz
  refine nm_ofW (cc := b_Tl_append) (maxL := 6) (ret := (some .int)) (own := R_Tl) (by decide) (Nat.le_of_ble_eq_true rfl) rfl ?_
  intro p e s m below meth c ls F hr hlk hnm hv hl
  obtain ⟨hx, hb, hml, hown, hts⟩ := id F
  obtain ⟨rfl, hP, hK, hI⟩ := hv
  have hD : nd (na PT ad s.heap.size) PT ad := nd_self hI
  have hA : ∀ q, s.heap.size ≤ q → na PT ad s.heap.size q := fun q h => Or.inr h
  have hS : va_S (na PT ad s.heap.size) s.heap s.heap [] := va_S.rf
  have hl : lv_has ls 6 [(0, .ref (ad 0)), (1, .int (nI kd)), (2, .int (nI mo)), (3, .int (nI k))] := hl
  refine lv_iload_n hx hb d_Tl_append_0 rfl (lv_at hl 1 rfl) ?_
  refine lv_iconst (v := nI 1) hx hb d_Tl_append_1 (by decide) ?_
  refine lv_bipush (v := nI 15) hx hb d_Tl_append_2 (by decide) ?_
  refine call_SN (As := [.int (nI kd), .int (nI 1), .int (nI 15)]) (rest := []) F (c_Tl_refuseOutside0 l (nI kd) (nI 1) (nI 15) (mt (nI_ltI (by omega) (by omega)).mp (by omega)) (mt (nI_ltI (by omega) (by omega)).mp (by omega))) km_Tl_42 kt_Tl_refuseOutside k0_Tl kc_Tl_refuseOutside kd_Tl_refuseOutside ⟨(Nat.le_of_ble_eq_true rfl), (Nat.le_of_ble_eq_true rfl)⟩ hl.1 rfl (Nat.le_of_ble_eq_true rfl) d_Tl_append_4 ⟨(Nat.le_of_ble_eq_true rfl), (Nat.le_of_ble_eq_true rfl)⟩ hS (fun H1 locs1 hN hS => ?_)
  have hP := hN _ _ _ _ hP
  generalize H1 = H at hP hS ⊢
  refine lv_iload_n hx hb d_Tl_append_7 rfl (lv_at hl 2 rfl) ?_
  refine call_SN (As := [.int (nI mo)]) (rest := []) F (c_Tl_refuseNegative0 l (nI mo) (nI_pos hmo)) km_Tl_49 kt_Tl_refuseNegative k0_Tl kc_Tl_refuseNegative kd_Tl_refuseNegative ⟨(Nat.le_of_ble_eq_true rfl), (Nat.le_of_ble_eq_true rfl)⟩ hl.1 rfl (Nat.le_of_ble_eq_true rfl) d_Tl_append_8 ⟨(Nat.le_of_ble_eq_true rfl), (Nat.le_of_ble_eq_true rfl)⟩ hS (fun H1 locs1 hN hS => ?_)
  have hP := hN _ _ _ _ hP
  generalize H1 = H at hP hS ⊢
  refine lv_iload_n hx hb d_Tl_append_11 rfl (lv_at hl 3 rfl) ?_
  refine lv_iconst (v := nI 0) hx hb d_Tl_append_12 (by decide) ?_
  refine lv_bipush (v := nI 45) hx hb d_Tl_append_13 (by decide) ?_
  refine call_SN (As := [.int (nI k), .int (nI 0), .int (nI 45)]) (rest := []) F (c_Tl_refuseOutside0 l (nI k) (nI 0) (nI 45) (mt (nI_ltI (by omega) (by omega)).mp (by omega)) (mt (nI_ltI (by omega) (by omega)).mp (by omega))) km_Tl_42 kt_Tl_refuseOutside k0_Tl kc_Tl_refuseOutside kd_Tl_refuseOutside ⟨(Nat.le_of_ble_eq_true rfl), (Nat.le_of_ble_eq_true rfl)⟩ hl.1 rfl (Nat.le_of_ble_eq_true rfl) d_Tl_append_15 ⟨(Nat.le_of_ble_eq_true rfl), (Nat.le_of_ble_eq_true rfl)⟩ hS (fun H1 locs1 hN hS => ?_)
  have hP := hN _ _ _ _ hP
  generalize H1 = H at hP hS ⊢
  refine lv_aload_n hx hb d_Tl_append_18 rfl (lv_at hl 0 rfl) ?_
  refine nw_get (D := D) (ci := 4) (C := R_Tl) (T := T_Tl) (N := 3) hx hb hts in_Tl hown hK.k hP (i := 0) (by decide) tl_0 rfl 0 (by decide) (hts _ kf_Tl_14) rfl d_Tl_append_19 ?_
  refine nw_getN (D := D) (ci := 1) (C := R_By) (T := T_By) (N := 2) hx hb hts in_By hown hK.k hP (i := 1) (by decide) tl_1 rfl 1 (by decide) (hK.nest 0 (by decide) rfl) rfl d_Tl_append_22 ?_
  refine lv_iload_n hx hb d_Tl_append_25 rfl (lv_at hl 3 rfl) ?_
  refine lv_iload_n hx hb d_Tl_append_26 rfl (lv_at hl 3 rfl) ?_
  refine lv_sipush (v := nI 1000) hx hb d_Tl_append_27 (by decide) ?_
  refine lv_iadd hx hb d_Tl_append_30 ?_
  refine lv_eqi (nI_add _ _) ?_
  refine call_SN (As := [.int (nI tn), .int (nI k), .int (nI (k + 1000))]) (rest := []) F (c_Tl_refuseOutside0 l (nI tn) (nI k) (nI (k + 1000)) (mt (nI_ltI (by omega) (by omega)).mp (by omega)) (mt (nI_ltI (by omega) (by omega)).mp (by omega))) km_Tl_42 kt_Tl_refuseOutside k0_Tl kc_Tl_refuseOutside kd_Tl_refuseOutside ⟨(Nat.le_of_ble_eq_true rfl), (Nat.le_of_ble_eq_true rfl)⟩ hl.1 rfl (Nat.le_of_ble_eq_true rfl) d_Tl_append_31 ⟨(Nat.le_of_ble_eq_true rfl), (Nat.le_of_ble_eq_true rfl)⟩ hS (fun H1 locs1 hN hS => ?_)
  have hP := hN _ _ _ _ hP
  generalize H1 = H at hP hS ⊢
  refine lv_aload_n hx hb d_Tl_append_34 rfl (lv_at hl 0 rfl) ?_
  refine call_N (As := []) (rest := []) F hK (c_Tl_refuseWhenDown0 l D cy ad tp rw pt cn er rc re cg tn ln bg cp cb pn false op w) km_Tl_29 ki_Tl_refuseWhenDown ks_Tl_refuseWhenDown k0_Tl kc_Tl_refuseWhenDown kd_Tl_refuseWhenDown ⟨(Nat.le_of_ble_eq_true rfl), (Nat.le_of_ble_eq_true rfl)⟩ (nw_recv hK.k hP (i := 0) (by decide) tl_0 rfl) (hP) (hI) hl.1 rfl (Nat.le_of_ble_eq_true rfl) d_Tl_append_35 ⟨(Nat.le_of_ble_eq_true rfl), (Nat.le_of_ble_eq_true rfl)⟩ hS (fun H1 locs1 hN hS => ?_)
  have hP := hN _ _ _ hP
  generalize H1 = H at hP hS ⊢
  refine lv_aload_n hx hb d_Tl_append_38 rfl (lv_at hl 0 rfl) ?_
  refine nw_get (D := D) (ci := 4) (C := R_Tl) (T := T_Tl) (N := 3) hx hb hts in_Tl hown hK.k hP (i := 0) (by decide) tl_0 rfl 1 (by decide) (hts _ kf_Tl_21) rfl d_Tl_append_39 ?_
  refine lv_bipush (v := nI 9) hx hb d_Tl_append_42 (by decide) ?_
  refine lv_aload_n hx hb d_Tl_append_44 rfl (lv_at hl 0 rfl) ?_
  refine nw_get (D := D) (ci := 4) (C := R_Tl) (T := T_Tl) (N := 3) hx hb hts in_Tl hown hK.k hP (i := 0) (by decide) tl_0 rfl 0 (by decide) (hts _ kf_Tl_14) rfl d_Tl_append_45 ?_
  refine nw_getN (D := D) (ci := 1) (C := R_By) (T := T_By) (N := 2) hx hb hts in_By hown hK.k hP (i := 1) (by decide) tl_1 rfl 1 (by decide) (hK.nest 0 (by decide) rfl) rfl d_Tl_append_48 ?_
  refine lv_iadd hx hb d_Tl_append_51 ?_
  refine lv_eqi (nI_add _ _) ?_
  refine call_R (As := [.int (nI (9 + tn))]) (rest := []) F hK (c_Lg_hasRoom l D cy ad (9 + tn) tp rw pt cn er rc re cg tn ln bg cp cb pn false op w HL HR HC HG HQ (by omega)) km_Tl_52 ki_Lg_hasRoom ks_Lg_hasRoom k0_Lg kc_Lg_hasRoom kd_Lg_hasRoom ⟨Nat.le_of_ble_eq_true rfl, Nat.le_of_ble_eq_true rfl⟩ (nw_recv hK.k hP (i := 3) (by decide) tl_3 rfl) (hP) (hI) hl.1 rfl (Nat.le_of_ble_eq_true rfl) d_Tl_append_52 ⟨(Nat.le_of_ble_eq_true rfl), (Nat.le_of_ble_eq_true rfl)⟩ hS (fun H1 locs1 hN hS => ?_)
  have hP := hN _ _ _ hP
  generalize H1 = H at hP hS ⊢
  refine lv_eqi (y := bI true) (by rw [hrm]) ?_
  refine lv_if_ne (tgt := 62) hx hb d_Tl_append_55 (by decide) (fun c55 => ?_) (fun c55 => absurd c55 (by decide))
  refine lv_iconst (v := nI 0) hx hb d_Tl_append_62 (by decide) ?_
  refine lv_istore (lv' := [(4, .int (nI 0)), (0, .ref (ad 0)), (1, .int (nI kd)), (2, .int (nI mo)), (3, .int (nI k))]) hx hb d_Tl_append_63 hl (by decide) rfl (fun ls hl => ?_)
  refine lv_iload hx hb d_Tl_append_65 (lv_at hl 0 rfl) ?_
  refine lv_if_eq (tgt := 100) hx hb d_Tl_append_67 (by decide) (fun c67 => ?_) (fun c67 => absurd (show nI 0 = 0 by decide) c67)
  refine lv_iload hx hb d_Tl_append_100 (lv_at hl 0 rfl) ?_
  refine lv_if_eq (tgt := 115) hx hb d_Tl_append_102 (by decide) (fun c102 => ?_) (fun c102 => absurd (show nI 0 = 0 by decide) c102)
  refine lv_aload_n hx hb d_Tl_append_115 rfl (lv_at hl 1 rfl) ?_
  refine nw_get (D := D) (ci := 4) (C := R_Tl) (T := T_Tl) (N := 3) hx hb hts in_Tl hown hK.k hP (i := 0) (by decide) tl_0 rfl 1 (by decide) (hts _ kf_Tl_21) rfl d_Tl_append_116 ?_
  refine lv_iload_n hx hb d_Tl_append_119 rfl (lv_at hl 2 rfl) ?_
  refine lv_iload_n hx hb d_Tl_append_120 rfl (lv_at hl 3 rfl) ?_
  refine lv_iload_n hx hb d_Tl_append_121 rfl (lv_at hl 4 rfl) ?_
  refine lv_aload_n hx hb d_Tl_append_122 rfl (lv_at hl 1 rfl) ?_
  refine nw_get (D := D) (ci := 4) (C := R_Tl) (T := T_Tl) (N := 3) hx hb hts in_Tl hown hK.k hP (i := 0) (by decide) tl_0 rfl 0 (by decide) (hts _ kf_Tl_14) rfl d_Tl_append_123 ?_
  refine call_I (As := [.int (nI kd), .int (nI mo), .int (nI k), .ref (ad 1)]) (rest := []) F hK (c_Lg_writeRecord1 l D cy ad kd mo k tp rw pt cn er rc re cg tn ln bg cp cb pn false op w HL HR HC HG HQ hcp hcb hln hop hroom hcn h255 (by omega) (by omega) hkt (by omega) hmo htp hdn) km_Tl_68 ki_Lg_writeRecord ks_Lg_writeRecord k0_Lg kc_Lg_writeRecord kd_Lg_writeRecord ⟨Nat.le_of_ble_eq_true rfl, Nat.le_of_ble_eq_true rfl⟩ (nw_recv hK.k hP (i := 3) (by decide) tl_3 rfl) (hP) (hI) hl.1 rfl (Nat.le_of_ble_eq_true rfl) d_Tl_append_126 ⟨(Nat.le_of_ble_eq_true rfl), (Nat.le_of_ble_eq_true rfl)⟩ hS (na_le hS) (fun H1 locs1 hP1 hk1 hS => ?_)
  have hP : nw D vcl PT ad (tlC cy ad tp tn false rw ln op bg (cutW w cp) (cutP w cp) cb (RB pt kd mo k tn tp) (9 + tn) cn (va_up cg (rw (ln - 1)) (upN (cg (rw (ln - 1))) (re (rw (ln - 1))) (RB pt kd mo k tn tp) (9 + tn))) er (va_up rc (rw (ln - 1)) (rc (rw (ln - 1)) + 1)) (va_up re (rw (ln - 1)) (re (rw (ln - 1)) + (9 + tn)))) H1 := hP1
  generalize H1 = H at hP hS ⊢
  refine lv_if_eq (tgt := 136) hx hb d_Tl_append_129 (by decide) (fun c129 => absurd c129 (show ¬ bI true = 0 by decide)) (fun c129 => ?_)
  refine lv_iconst (v := nI 1) hx hb d_Tl_append_132 (by decide) ?_
  refine lv_goto (tgt := 137) hx hb d_Tl_append_133 (by decide) ?_
  refine lv_istore (lv' := [(5, .int (nI 1)), (4, .int (nI 0)), (0, .ref (ad 0)), (1, .int (nI kd)), (2, .int (nI mo)), (3, .int (nI k))]) hx hb d_Tl_append_137 hl (by decide) rfl (fun ls hl => ?_)
  refine lv_aload_n hx hb d_Tl_append_139 rfl (lv_at hl 2 rfl) ?_
  refine nw_get (D := D) (ci := 4) (C := R_Tl) (T := T_Tl) (N := 3) hx hb hts in_Tl hown hK.k hP (i := 0) (by decide) tl_0 rfl 0 (by decide) (hts _ kf_Tl_14) rfl d_Tl_append_140 ?_
  refine lv_iconst (v := nI 0) hx hb d_Tl_append_143 (by decide) ?_
  refine nw_putN (D := D) (ci := 1) (C := R_By) (T := T_By) (N := 2) hx hb hts in_By ty_By tk_By nm_By hown hK.k hP hD hS (i := 1) (by decide) tl_1 rfl 1 (by decide) (hK.nest 0 (by decide) rfl) rfl rfl rfl (Nat.le_of_ble_eq_true rfl) d_Tl_append_144 (fun H locs hP hS hz hq => ?_)
  have hP : nw D vcl PT ad (tlC cy ad tp 0 false rw ln op bg (cutW w cp) (cutP w cp) cb (RB pt kd mo k tn tp) (9 + tn) cn (va_up cg (rw (ln - 1)) (upN (cg (rw (ln - 1))) (re (rw (ln - 1))) (RB pt kd mo k tn tp) (9 + tn))) er (va_up rc (rw (ln - 1)) (rc (rw (ln - 1)) + 1)) (va_up re (rw (ln - 1)) (re (rw (ln - 1)) + (9 + tn)))) H := nw_congr hP (tlu_tn)
  refine lv_iload hx hb d_Tl_append_147 (lv_at hl 0 rfl) ?_
  refine lv_if_ne (tgt := 167) hx hb d_Tl_append_149 (by decide) (fun c149 => ?_) (fun c149 => absurd c149 (by decide))
  refine lv_aload_n hx hb d_Tl_append_167 rfl (lv_at hl 2 rfl) ?_
  refine nw_get (D := D) (ci := 4) (C := R_Tl) (T := T_Tl) (N := 3) hx hb hts in_Tl hown hK.k hP (i := 0) (by decide) tl_0 rfl 1 (by decide) (hts _ kf_Tl_21) rfl d_Tl_append_168 ?_
  refine call_R (As := []) (rest := []) F hK (c_Lg_recordsOfLast l D cy ad tp rw (RB pt kd mo k tn tp) cn er (va_up rc (rw (ln - 1)) (rc (rw (ln - 1)) + 1)) (va_up re (rw (ln - 1)) (re (rw (ln - 1)) + (9 + tn))) (va_up cg (rw (ln - 1)) (upN (cg (rw (ln - 1))) (re (rw (ln - 1))) (RB pt kd mo k tn tp) (9 + tn))) 0 ln bg (cutP w cp) cb (9 + tn) false op (cutW w cp) HL HR hln) km_Tl_77 ki_Lg_recordsOfLast ks_Lg_recordsOfLast k0_Lg kc_Lg_recordsOfLast kd_Lg_recordsOfLast ⟨Nat.le_of_ble_eq_true rfl, Nat.le_of_ble_eq_true rfl⟩ (nw_recv hK.k hP (i := 3) (by decide) tl_3 rfl) (hP) (hI) hl.1 rfl (Nat.le_of_ble_eq_true rfl) d_Tl_append_171 ⟨(Nat.le_of_ble_eq_true rfl), (Nat.le_of_ble_eq_true rfl)⟩ hS (fun H1 locs1 hN hS => ?_)
  have hP := hN _ _ _ hP
  generalize H1 = H at hP hS ⊢
  refine lv_eqi (y := nI (rc (rw (ln - 1)) + 1)) (by rw [va_up_self]) ?_
  refine W.widen (k := 2) (n := 2054) (Nat.le_of_ble_eq_true rfl) (Nat.le_of_ble_eq_true rfl) ?_
  exact W.zret hx hb hr rfl (fun t ht hW => ⟨⟨_, ad, rfl, ⟨rfl, nxt_rf hD⟩, by show nw _ _ _ _ _ t.heap; rw [ht]; exact hP⟩, hS.F ht⟩) hS.2.2 d_Tl_append_174 hlk
set_option maxRecDepth 100000 in
set_option maxHeartbeats 4000000 in
theorem c_Tl_append9 (l : Launch) (D : va_G) (cy : Nat → ClassId) (ad : Nat → Nat) (sa : Nat → Nat) (base : Nat) (hl0 : l.stackTraces = false) (tp rw pt cn er rc re : Nat → Nat) (cg : Nat → Nat → Nat) (tn ln bg cp cb pn : Nat) (dn op w : Bool) (kd mo k : Nat) (hkd1 : 1 ≤ kd) (hkd2 : kd ≤ 15) (hmo : mo < 2 ^ 31) (hk : k ≤ 45) (hkt : k ≤ tn) (htk : tn ≤ k + 1000) (HL : ln ≤ 24) (HR : ∀ i, i < ln → rw i < 24) (HC : ∀ b, b < 24 → cn b < 2 ^ 16) (HG : ∀ b, b < 24 → ∀ j, j < cn b → cg b j < 256) (HQ : ∀ b, b < 24 → rc b < 2 ^ 16 ∧ re b < 2 ^ 16) (hrm : (op && (decide (0 < ln) && decide (re (rw (ln - 1)) + (9 + tn) ≤ 2046))) = false) (h24 : ln ≠ 24) (rw2 pt2 cn2 er2 rc2 re2 : Nat → Nat) (cg2 : Nat → Nat → Nat) (ln2 bg2 cp2 cb2 pn2 : Nat) (op2 w2 : Bool) (hT : mtX l y_Lg_takeBlock b_Lg_takeBlock 2 (some .boolean) { frames := 5, cells := 1, slots := 2048, locals := 110 } D cy [.ref (ad 3)] ad (tlC cy ad tp tn false rw ln op bg w cp cb pt pn cn cg er rc re) (fun ad' => tlC cy ad' tp tn false rw2 ln2 op2 bg2 w2 cp2 cb2 pt2 pn2 cn2 cg2 er2 rc2 re2) (bI false)) : mtU l y_Tl_append b_Tl_append 6 (some .int) RT D cy [.ref (ad 0), .int (nI kd), .int (nI mo), .int (nI k)] ad (tlC cy ad tp tn false rw ln op bg w cp cb pt pn cn cg er rc re) (fun ad' => tlC cy ad' tp 0 true rw2 ln2 op2 bg2 w2 cp2 cb2 pt2 pn2 cn2 cg2 er2 rc2 re2) sa base xIS := by
  intro sz
  refine nx_ofW (cc := b_Tl_append) (maxL := 6) (ret := (some .int)) (own := R_Tl) (by decide) (Nat.le_of_ble_eq_true rfl) rfl ?_
  intro p e s m below meth c ls F hr hlk hex hv hl
  obtain ⟨hx, hb, hml, hown, hts⟩ := id F
  obtain ⟨rfl, ⟨hP, hK, hI⟩, hX, hlo⟩ := hv
  have hD : nd (na PT ad s.heap.size) PT ad := nd_self hI
  have hA : ∀ q, s.heap.size ≤ q → na PT ad s.heap.size q := fun q h => Or.inr h
  have hS : va_S (na PT ad s.heap.size) s.heap s.heap [] := va_S.rf
  have hl : lv_has ls 6 [(0, .ref (ad 0)), (1, .int (nI kd)), (2, .int (nI mo)), (3, .int (nI k))] := hl
  refine lv_iload_n hx hb d_Tl_append_0 rfl (lv_at hl 1 rfl) ?_
  refine lv_iconst (v := nI 1) hx hb d_Tl_append_1 (by decide) ?_
  refine lv_bipush (v := nI 15) hx hb d_Tl_append_2 (by decide) ?_
  refine call_SN (As := [.int (nI kd), .int (nI 1), .int (nI 15)]) (rest := []) F (c_Tl_refuseOutside0 l (nI kd) (nI 1) (nI 15) (mt (nI_ltI (by omega) (by omega)).mp (by omega)) (mt (nI_ltI (by omega) (by omega)).mp (by omega))) km_Tl_42 kt_Tl_refuseOutside k0_Tl kc_Tl_refuseOutside kd_Tl_refuseOutside ⟨(Nat.le_of_ble_eq_true rfl), (Nat.le_of_ble_eq_true rfl)⟩ hl.1 rfl (Nat.le_of_ble_eq_true rfl) d_Tl_append_4 ⟨(Nat.le_of_ble_eq_true rfl), (Nat.le_of_ble_eq_true rfl)⟩ hS (fun H1 locs1 hN hS => ?_)
  have hP := hN _ _ _ _ hP
  generalize H1 = H at hP hS ⊢
  refine lv_iload_n hx hb d_Tl_append_7 rfl (lv_at hl 2 rfl) ?_
  refine call_SN (As := [.int (nI mo)]) (rest := []) F (c_Tl_refuseNegative0 l (nI mo) (nI_pos hmo)) km_Tl_49 kt_Tl_refuseNegative k0_Tl kc_Tl_refuseNegative kd_Tl_refuseNegative ⟨(Nat.le_of_ble_eq_true rfl), (Nat.le_of_ble_eq_true rfl)⟩ hl.1 rfl (Nat.le_of_ble_eq_true rfl) d_Tl_append_8 ⟨(Nat.le_of_ble_eq_true rfl), (Nat.le_of_ble_eq_true rfl)⟩ hS (fun H1 locs1 hN hS => ?_)
  have hP := hN _ _ _ _ hP
  generalize H1 = H at hP hS ⊢
  refine lv_iload_n hx hb d_Tl_append_11 rfl (lv_at hl 3 rfl) ?_
  refine lv_iconst (v := nI 0) hx hb d_Tl_append_12 (by decide) ?_
  refine lv_bipush (v := nI 45) hx hb d_Tl_append_13 (by decide) ?_
  refine call_SN (As := [.int (nI k), .int (nI 0), .int (nI 45)]) (rest := []) F (c_Tl_refuseOutside0 l (nI k) (nI 0) (nI 45) (mt (nI_ltI (by omega) (by omega)).mp (by omega)) (mt (nI_ltI (by omega) (by omega)).mp (by omega))) km_Tl_42 kt_Tl_refuseOutside k0_Tl kc_Tl_refuseOutside kd_Tl_refuseOutside ⟨(Nat.le_of_ble_eq_true rfl), (Nat.le_of_ble_eq_true rfl)⟩ hl.1 rfl (Nat.le_of_ble_eq_true rfl) d_Tl_append_15 ⟨(Nat.le_of_ble_eq_true rfl), (Nat.le_of_ble_eq_true rfl)⟩ hS (fun H1 locs1 hN hS => ?_)
  have hP := hN _ _ _ _ hP
  generalize H1 = H at hP hS ⊢
  refine lv_aload_n hx hb d_Tl_append_18 rfl (lv_at hl 0 rfl) ?_
  refine nw_get (D := D) (ci := 4) (C := R_Tl) (T := T_Tl) (N := 3) hx hb hts in_Tl hown hK.k hP (i := 0) (by decide) tl_0 rfl 0 (by decide) (hts _ kf_Tl_14) rfl d_Tl_append_19 ?_
  refine nw_getN (D := D) (ci := 1) (C := R_By) (T := T_By) (N := 2) hx hb hts in_By hown hK.k hP (i := 1) (by decide) tl_1 rfl 1 (by decide) (hK.nest 0 (by decide) rfl) rfl d_Tl_append_22 ?_
  refine lv_iload_n hx hb d_Tl_append_25 rfl (lv_at hl 3 rfl) ?_
  refine lv_iload_n hx hb d_Tl_append_26 rfl (lv_at hl 3 rfl) ?_
  refine lv_sipush (v := nI 1000) hx hb d_Tl_append_27 (by decide) ?_
  refine lv_iadd hx hb d_Tl_append_30 ?_
  refine lv_eqi (nI_add _ _) ?_
  refine call_SN (As := [.int (nI tn), .int (nI k), .int (nI (k + 1000))]) (rest := []) F (c_Tl_refuseOutside0 l (nI tn) (nI k) (nI (k + 1000)) (mt (nI_ltI (by omega) (by omega)).mp (by omega)) (mt (nI_ltI (by omega) (by omega)).mp (by omega))) km_Tl_42 kt_Tl_refuseOutside k0_Tl kc_Tl_refuseOutside kd_Tl_refuseOutside ⟨(Nat.le_of_ble_eq_true rfl), (Nat.le_of_ble_eq_true rfl)⟩ hl.1 rfl (Nat.le_of_ble_eq_true rfl) d_Tl_append_31 ⟨(Nat.le_of_ble_eq_true rfl), (Nat.le_of_ble_eq_true rfl)⟩ hS (fun H1 locs1 hN hS => ?_)
  have hP := hN _ _ _ _ hP
  generalize H1 = H at hP hS ⊢
  refine lv_aload_n hx hb d_Tl_append_34 rfl (lv_at hl 0 rfl) ?_
  refine call_N (As := []) (rest := []) F hK (c_Tl_refuseWhenDown0 l D cy ad tp rw pt cn er rc re cg tn ln bg cp cb pn false op w) km_Tl_29 ki_Tl_refuseWhenDown ks_Tl_refuseWhenDown k0_Tl kc_Tl_refuseWhenDown kd_Tl_refuseWhenDown ⟨(Nat.le_of_ble_eq_true rfl), (Nat.le_of_ble_eq_true rfl)⟩ (nw_recv hK.k hP (i := 0) (by decide) tl_0 rfl) (hP) (hI) hl.1 rfl (Nat.le_of_ble_eq_true rfl) d_Tl_append_35 ⟨(Nat.le_of_ble_eq_true rfl), (Nat.le_of_ble_eq_true rfl)⟩ hS (fun H1 locs1 hN hS => ?_)
  have hP := hN _ _ _ hP
  generalize H1 = H at hP hS ⊢
  refine lv_aload_n hx hb d_Tl_append_38 rfl (lv_at hl 0 rfl) ?_
  refine nw_get (D := D) (ci := 4) (C := R_Tl) (T := T_Tl) (N := 3) hx hb hts in_Tl hown hK.k hP (i := 0) (by decide) tl_0 rfl 1 (by decide) (hts _ kf_Tl_21) rfl d_Tl_append_39 ?_
  refine lv_bipush (v := nI 9) hx hb d_Tl_append_42 (by decide) ?_
  refine lv_aload_n hx hb d_Tl_append_44 rfl (lv_at hl 0 rfl) ?_
  refine nw_get (D := D) (ci := 4) (C := R_Tl) (T := T_Tl) (N := 3) hx hb hts in_Tl hown hK.k hP (i := 0) (by decide) tl_0 rfl 0 (by decide) (hts _ kf_Tl_14) rfl d_Tl_append_45 ?_
  refine nw_getN (D := D) (ci := 1) (C := R_By) (T := T_By) (N := 2) hx hb hts in_By hown hK.k hP (i := 1) (by decide) tl_1 rfl 1 (by decide) (hK.nest 0 (by decide) rfl) rfl d_Tl_append_48 ?_
  refine lv_iadd hx hb d_Tl_append_51 ?_
  refine lv_eqi (nI_add _ _) ?_
  refine call_R (As := [.int (nI (9 + tn))]) (rest := []) F hK (c_Lg_hasRoom l D cy ad (9 + tn) tp rw pt cn er rc re cg tn ln bg cp cb pn false op w HL HR HC HG HQ (by omega)) km_Tl_52 ki_Lg_hasRoom ks_Lg_hasRoom k0_Lg kc_Lg_hasRoom kd_Lg_hasRoom ⟨Nat.le_of_ble_eq_true rfl, Nat.le_of_ble_eq_true rfl⟩ (nw_recv hK.k hP (i := 3) (by decide) tl_3 rfl) (hP) (hI) hl.1 rfl (Nat.le_of_ble_eq_true rfl) d_Tl_append_52 ⟨(Nat.le_of_ble_eq_true rfl), (Nat.le_of_ble_eq_true rfl)⟩ hS (fun H1 locs1 hN hS => ?_)
  have hP := hN _ _ _ hP
  generalize H1 = H at hP hS ⊢
  refine lv_eqi (y := bI false) (by rw [hrm]) ?_
  refine lv_if_ne (tgt := 62) hx hb d_Tl_append_55 (by decide) (fun c55 => absurd (show bI false = 0 by decide) c55) (fun c55 => ?_)
  refine lv_iconst (v := nI 1) hx hb d_Tl_append_58 (by decide) ?_
  refine lv_goto (tgt := 63) hx hb d_Tl_append_59 (by decide) ?_
  refine lv_istore (lv' := [(4, .int (nI 1)), (0, .ref (ad 0)), (1, .int (nI kd)), (2, .int (nI mo)), (3, .int (nI k))]) hx hb d_Tl_append_63 hl (by decide) rfl (fun ls hl => ?_)
  refine lv_iload hx hb d_Tl_append_65 (lv_at hl 0 rfl) ?_
  refine lv_if_eq (tgt := 100) hx hb d_Tl_append_67 (by decide) (fun c67 => absurd c67 (show ¬ nI 1 = 0 by decide)) (fun c67 => ?_)
  refine lv_aload_n hx hb d_Tl_append_70 rfl (lv_at hl 1 rfl) ?_
  refine nw_get (D := D) (ci := 4) (C := R_Tl) (T := T_Tl) (N := 3) hx hb hts in_Tl hown hK.k hP (i := 0) (by decide) tl_0 rfl 1 (by decide) (hts _ kf_Tl_21) rfl d_Tl_append_71 ?_
  refine nw_getN (D := D) (ci := 3) (C := R_Lg) (T := T_Lg) (N := 7) hx hb hts in_Lg hown hK.k hP (i := 3) (by decide) tl_3 rfl 2 (by decide) (hK.nest 8 (by decide) rfl) rfl d_Tl_append_74 ?_
  refine lv_bipush (v := nI 24) hx hb d_Tl_append_77 (by decide) ?_
  refine lv_icmp_ne (tgt := 100) hx hb d_Tl_append_79 (by decide) (fun c79 => ?_) (fun c79 => absurd ((nI_eq (by omega) (by omega)).mp c79) h24)
  refine lv_iload hx hb d_Tl_append_100 (lv_at hl 0 rfl) ?_
  refine lv_if_eq (tgt := 115) hx hb d_Tl_append_102 (by decide) (fun c102 => absurd c102 (show ¬ nI 1 = 0 by decide)) (fun c102 => ?_)
  refine lv_aload_n hx hb d_Tl_append_105 rfl (lv_at hl 1 rfl) ?_
  refine nw_get (D := D) (ci := 4) (C := R_Tl) (T := T_Tl) (N := 3) hx hb hts in_Tl hown hK.k hP (i := 0) (by decide) tl_0 rfl 1 (by decide) (hts _ kf_Tl_21) rfl d_Tl_append_106 ?_
  have hsz := hS.1
  refine call_X (As := []) (rest := []) F hK hT km_Tl_64 ki_Lg_takeBlock ks_Lg_takeBlock k0_Lg kc_Lg_takeBlock kd_Lg_takeBlock ⟨(Nat.le_of_ble_eq_true rfl), (Nat.le_of_ble_eq_true rfl)⟩ (nw_recv hK.k hP (i := 3) (by decide) tl_3 rfl) hP hI hl.1 rfl (Nat.le_of_ble_eq_true rfl) d_Tl_append_109 ⟨(Nat.le_of_ble_eq_true rfl), (Nat.le_of_ble_eq_true rfl)⟩ hS (na_le hS) (fun ad' H1 locs1 hnx hP hk1 hS => ?_)
  have hnx := nxt_mono hnx hsz
  have hD := nxt_nd hnx
  generalize H1 = H at hP hS ⊢
  have hl : lv_has ls 6 [(4, .int (nI 1)), (0, .ref (ad' 0)), (1, .int (nI kd)), (2, .int (nI mo)), (3, .int (nI k))] := by rw [hnx.1 0 (by omega)]; exact hl
  refine lv_if_eq (tgt := 136) hx hb d_Tl_append_112 (by decide) (fun c112 => ?_) (fun c112 => absurd (show bI false = 0 by decide) c112)
  refine lv_iconst (v := nI 0) hx hb d_Tl_append_136 (by decide) ?_
  refine lv_istore (lv' := [(5, .int (nI 0)), (4, .int (nI 1)), (0, .ref (ad' 0)), (1, .int (nI kd)), (2, .int (nI mo)), (3, .int (nI k))]) hx hb d_Tl_append_137 hl (by decide) rfl (fun ls hl => ?_)
  refine lv_aload_n hx hb d_Tl_append_139 rfl (lv_at hl 2 rfl) ?_
  refine nw_get (D := D) (ci := 4) (C := R_Tl) (T := T_Tl) (N := 3) hx hb hts in_Tl hown hK.k hP (i := 0) (by decide) tl_0 rfl 0 (by decide) (hts _ kf_Tl_14) rfl d_Tl_append_140 ?_
  refine lv_iconst (v := nI 0) hx hb d_Tl_append_143 (by decide) ?_
  refine nw_putN (D := D) (ci := 1) (C := R_By) (T := T_By) (N := 2) hx hb hts in_By ty_By tk_By nm_By hown hK.k hP hD hS (i := 1) (by decide) tl_1 rfl 1 (by decide) (hK.nest 0 (by decide) rfl) rfl rfl rfl (Nat.le_of_ble_eq_true rfl) d_Tl_append_144 (fun H locs hP hS hz hq => ?_)
  have hP : nw D vcl PT ad' (tlC cy ad' tp 0 false rw2 ln2 op2 bg2 w2 cp2 cb2 pt2 pn2 cn2 cg2 er2 rc2 re2) H := nw_congr hP (tlu_tn)
  refine lv_iload hx hb d_Tl_append_147 (lv_at hl 0 rfl) ?_
  refine lv_if_ne (tgt := 167) hx hb d_Tl_append_149 (by decide) (fun c149 => absurd (show nI 0 = 0 by decide) c149) (fun c149 => ?_)
  refine lv_aload_n hx hb d_Tl_append_152 rfl (lv_at hl 2 rfl) ?_
  refine lv_iconst (v := bI true) hx hb d_Tl_append_153 (by decide) ?_
  refine nw_put (D := D) (ci := 4) (C := R_Tl) (T := T_Tl) (N := 3) hx hb hts in_Tl ty_Tl tk_Tl nm_Tl hown hK.k hP hD hS (i := 0) (by decide) tl_0 rfl 2 (by decide) (hts _ kf_Tl_25) rfl (bI_nar _) (bI_fit _) (Nat.le_of_ble_eq_true rfl) d_Tl_append_154 (fun H locs hP hS hz hq => ?_)
  have hP : nw D vcl PT ad' (tlC cy ad' tp 0 true rw2 ln2 op2 bg2 w2 cp2 cb2 pt2 pn2 cn2 cg2 er2 rc2 re2) H := nw_congr hP (tlu_dn)
  exact thr_IS F hl0 hX (List.mem_of_getElem? (i := 5) rfl) hS (na_lo hX hlo) hl.1 d_Tl_append_157 d_Tl_append_160 d_Tl_append_161 d_Tl_append_163 d_Tl_append_166 hex ⟨(Nat.le_of_ble_eq_true rfl), (Nat.le_of_ble_eq_true rfl)⟩ (Nat.le_of_ble_eq_true rfl) (Nat.le_of_ble_eq_true rfl) hlk (fun t _ hz hk => fin_U hP hnx hS hz hk) hS.2.2 (Nat.le_of_ble_eq_true rfl) (Nat.le_of_ble_eq_true rfl)
set_option maxRecDepth 100000 in
set_option maxHeartbeats 4000000 in
theorem c_Tl_append10 (l : Launch) (D : va_G) (cy : Nat → ClassId) (ad : Nat → Nat) (sa : Nat → Nat) (base : Nat) (hl0 : l.stackTraces = false) (tp rw pt cn er rc re : Nat → Nat) (cg : Nat → Nat → Nat) (tn ln bg cp cb pn : Nat) (dn op w : Bool) (kd mo k : Nat) (hkd1 : 1 ≤ kd) (hkd2 : kd ≤ 15) (hmo : mo < 2 ^ 31) (hk : k ≤ 45) (hkt : k ≤ tn) (htk : tn ≤ k + 1000) (HL : ln ≤ 24) (HR : ∀ i, i < ln → rw i < 24) (HC : ∀ b, b < 24 → cn b < 2 ^ 16) (HG : ∀ b, b < 24 → ∀ j, j < cn b → cg b j < 256) (HQ : ∀ b, b < 24 → rc b < 2 ^ 16 ∧ re b < 2 ^ 16) (hrm : (op && (decide (0 < ln) && decide (re (rw (ln - 1)) + (9 + tn) ≤ 2046))) = false) (h24 : ln ≠ 24) (rw2 pt2 cn2 er2 rc2 re2 : Nat → Nat) (cg2 : Nat → Nat → Nat) (ln2 bg2 cp2 cb2 pn2 : Nat) (op2 w2 : Bool) (hT : mtX l y_Lg_takeBlock b_Lg_takeBlock 2 (some .boolean) { frames := 5, cells := 1, slots := 2048, locals := 110 } D cy [.ref (ad 3)] ad (tlC cy ad tp tn false rw ln op bg w cp cb pt pn cn cg er rc re) (fun ad' => tlC cy ad' tp tn false rw2 ln2 op2 bg2 w2 cp2 cb2 pt2 pn2 cn2 cg2 er2 rc2 re2) (bI true)) (HL2 : ln2 ≤ 24) (HR2 : ∀ i, i < ln2 → rw2 i < 24) (HC2 : ∀ b, b < 24 → cn2 b < 2 ^ 16) (HG2 : ∀ b, b < 24 → ∀ j, j < cn2 b → cg2 b j < 256) (HQ2 : ∀ b, b < 24 → rc2 b < 2 ^ 16 ∧ re2 b < 2 ^ 16) (hcp : cp2 < 2 ^ 31) (hcb : cb2 < 2 ^ 31) (hln : 0 < ln2) (hop : op2 = true) (hroom : re2 (rw2 (ln2 - 1)) + (9 + tn) ≤ 2046) (hcn : 2046 ≤ cn2 (rw2 (ln2 - 1))) (h255 : ∀ j, j < 9 + tn → cg2 (rw2 (ln2 - 1)) (re2 (rw2 (ln2 - 1)) + j) = 255) (htp : ∀ j, j < tn → tp j < 256) (hdn : cutN w2 cp2 cb2 (9 + tn) ≠ 9 + tn) : mtU l y_Tl_append b_Tl_append 6 (some .int) RT D cy [.ref (ad 0), .int (nI kd), .int (nI mo), .int (nI k)] ad (tlC cy ad tp tn false rw ln op bg w cp cb pt pn cn cg er rc re) (fun ad' => tlC cy ad' tp 0 true rw2 ln2 op2 bg2 (cutW w2 cp2) (cutP w2 cp2) cb2 (RB pt2 kd mo k tn tp) (9 + tn) cn2 (va_up cg2 (rw2 (ln2 - 1)) (upN (cg2 (rw2 (ln2 - 1))) (re2 (rw2 (ln2 - 1))) (RB pt2 kd mo k tn tp) (cutN w2 cp2 cb2 (9 + tn)))) er2 rc2 re2) sa base xIS := by
  intro sz
  refine nx_ofW (cc := b_Tl_append) (maxL := 6) (ret := (some .int)) (own := R_Tl) (by decide) (Nat.le_of_ble_eq_true rfl) rfl ?_
  intro p e s m below meth c ls F hr hlk hex hv hl
  obtain ⟨hx, hb, hml, hown, hts⟩ := id F
  obtain ⟨rfl, ⟨hP, hK, hI⟩, hX, hlo⟩ := hv
  have hD : nd (na PT ad s.heap.size) PT ad := nd_self hI
  have hA : ∀ q, s.heap.size ≤ q → na PT ad s.heap.size q := fun q h => Or.inr h
  have hS : va_S (na PT ad s.heap.size) s.heap s.heap [] := va_S.rf
  have hl : lv_has ls 6 [(0, .ref (ad 0)), (1, .int (nI kd)), (2, .int (nI mo)), (3, .int (nI k))] := hl
  refine lv_iload_n hx hb d_Tl_append_0 rfl (lv_at hl 1 rfl) ?_
  refine lv_iconst (v := nI 1) hx hb d_Tl_append_1 (by decide) ?_
  refine lv_bipush (v := nI 15) hx hb d_Tl_append_2 (by decide) ?_
  refine call_SN (As := [.int (nI kd), .int (nI 1), .int (nI 15)]) (rest := []) F (c_Tl_refuseOutside0 l (nI kd) (nI 1) (nI 15) (mt (nI_ltI (by omega) (by omega)).mp (by omega)) (mt (nI_ltI (by omega) (by omega)).mp (by omega))) km_Tl_42 kt_Tl_refuseOutside k0_Tl kc_Tl_refuseOutside kd_Tl_refuseOutside ⟨(Nat.le_of_ble_eq_true rfl), (Nat.le_of_ble_eq_true rfl)⟩ hl.1 rfl (Nat.le_of_ble_eq_true rfl) d_Tl_append_4 ⟨(Nat.le_of_ble_eq_true rfl), (Nat.le_of_ble_eq_true rfl)⟩ hS (fun H1 locs1 hN hS => ?_)
  have hP := hN _ _ _ _ hP
  generalize H1 = H at hP hS ⊢
  refine lv_iload_n hx hb d_Tl_append_7 rfl (lv_at hl 2 rfl) ?_
  refine call_SN (As := [.int (nI mo)]) (rest := []) F (c_Tl_refuseNegative0 l (nI mo) (nI_pos hmo)) km_Tl_49 kt_Tl_refuseNegative k0_Tl kc_Tl_refuseNegative kd_Tl_refuseNegative ⟨(Nat.le_of_ble_eq_true rfl), (Nat.le_of_ble_eq_true rfl)⟩ hl.1 rfl (Nat.le_of_ble_eq_true rfl) d_Tl_append_8 ⟨(Nat.le_of_ble_eq_true rfl), (Nat.le_of_ble_eq_true rfl)⟩ hS (fun H1 locs1 hN hS => ?_)
  have hP := hN _ _ _ _ hP
  generalize H1 = H at hP hS ⊢
  refine lv_iload_n hx hb d_Tl_append_11 rfl (lv_at hl 3 rfl) ?_
  refine lv_iconst (v := nI 0) hx hb d_Tl_append_12 (by decide) ?_
  refine lv_bipush (v := nI 45) hx hb d_Tl_append_13 (by decide) ?_
  refine call_SN (As := [.int (nI k), .int (nI 0), .int (nI 45)]) (rest := []) F (c_Tl_refuseOutside0 l (nI k) (nI 0) (nI 45) (mt (nI_ltI (by omega) (by omega)).mp (by omega)) (mt (nI_ltI (by omega) (by omega)).mp (by omega))) km_Tl_42 kt_Tl_refuseOutside k0_Tl kc_Tl_refuseOutside kd_Tl_refuseOutside ⟨(Nat.le_of_ble_eq_true rfl), (Nat.le_of_ble_eq_true rfl)⟩ hl.1 rfl (Nat.le_of_ble_eq_true rfl) d_Tl_append_15 ⟨(Nat.le_of_ble_eq_true rfl), (Nat.le_of_ble_eq_true rfl)⟩ hS (fun H1 locs1 hN hS => ?_)
  have hP := hN _ _ _ _ hP
  generalize H1 = H at hP hS ⊢
  refine lv_aload_n hx hb d_Tl_append_18 rfl (lv_at hl 0 rfl) ?_
  refine nw_get (D := D) (ci := 4) (C := R_Tl) (T := T_Tl) (N := 3) hx hb hts in_Tl hown hK.k hP (i := 0) (by decide) tl_0 rfl 0 (by decide) (hts _ kf_Tl_14) rfl d_Tl_append_19 ?_
  refine nw_getN (D := D) (ci := 1) (C := R_By) (T := T_By) (N := 2) hx hb hts in_By hown hK.k hP (i := 1) (by decide) tl_1 rfl 1 (by decide) (hK.nest 0 (by decide) rfl) rfl d_Tl_append_22 ?_
  refine lv_iload_n hx hb d_Tl_append_25 rfl (lv_at hl 3 rfl) ?_
  refine lv_iload_n hx hb d_Tl_append_26 rfl (lv_at hl 3 rfl) ?_
  refine lv_sipush (v := nI 1000) hx hb d_Tl_append_27 (by decide) ?_
  refine lv_iadd hx hb d_Tl_append_30 ?_
  refine lv_eqi (nI_add _ _) ?_
  refine call_SN (As := [.int (nI tn), .int (nI k), .int (nI (k + 1000))]) (rest := []) F (c_Tl_refuseOutside0 l (nI tn) (nI k) (nI (k + 1000)) (mt (nI_ltI (by omega) (by omega)).mp (by omega)) (mt (nI_ltI (by omega) (by omega)).mp (by omega))) km_Tl_42 kt_Tl_refuseOutside k0_Tl kc_Tl_refuseOutside kd_Tl_refuseOutside ⟨(Nat.le_of_ble_eq_true rfl), (Nat.le_of_ble_eq_true rfl)⟩ hl.1 rfl (Nat.le_of_ble_eq_true rfl) d_Tl_append_31 ⟨(Nat.le_of_ble_eq_true rfl), (Nat.le_of_ble_eq_true rfl)⟩ hS (fun H1 locs1 hN hS => ?_)
  have hP := hN _ _ _ _ hP
  generalize H1 = H at hP hS ⊢
  refine lv_aload_n hx hb d_Tl_append_34 rfl (lv_at hl 0 rfl) ?_
  refine call_N (As := []) (rest := []) F hK (c_Tl_refuseWhenDown0 l D cy ad tp rw pt cn er rc re cg tn ln bg cp cb pn false op w) km_Tl_29 ki_Tl_refuseWhenDown ks_Tl_refuseWhenDown k0_Tl kc_Tl_refuseWhenDown kd_Tl_refuseWhenDown ⟨(Nat.le_of_ble_eq_true rfl), (Nat.le_of_ble_eq_true rfl)⟩ (nw_recv hK.k hP (i := 0) (by decide) tl_0 rfl) (hP) (hI) hl.1 rfl (Nat.le_of_ble_eq_true rfl) d_Tl_append_35 ⟨(Nat.le_of_ble_eq_true rfl), (Nat.le_of_ble_eq_true rfl)⟩ hS (fun H1 locs1 hN hS => ?_)
  have hP := hN _ _ _ hP
  generalize H1 = H at hP hS ⊢
  refine lv_aload_n hx hb d_Tl_append_38 rfl (lv_at hl 0 rfl) ?_
  refine nw_get (D := D) (ci := 4) (C := R_Tl) (T := T_Tl) (N := 3) hx hb hts in_Tl hown hK.k hP (i := 0) (by decide) tl_0 rfl 1 (by decide) (hts _ kf_Tl_21) rfl d_Tl_append_39 ?_
  refine lv_bipush (v := nI 9) hx hb d_Tl_append_42 (by decide) ?_
  refine lv_aload_n hx hb d_Tl_append_44 rfl (lv_at hl 0 rfl) ?_
  refine nw_get (D := D) (ci := 4) (C := R_Tl) (T := T_Tl) (N := 3) hx hb hts in_Tl hown hK.k hP (i := 0) (by decide) tl_0 rfl 0 (by decide) (hts _ kf_Tl_14) rfl d_Tl_append_45 ?_
  refine nw_getN (D := D) (ci := 1) (C := R_By) (T := T_By) (N := 2) hx hb hts in_By hown hK.k hP (i := 1) (by decide) tl_1 rfl 1 (by decide) (hK.nest 0 (by decide) rfl) rfl d_Tl_append_48 ?_
  refine lv_iadd hx hb d_Tl_append_51 ?_
  refine lv_eqi (nI_add _ _) ?_
  refine call_R (As := [.int (nI (9 + tn))]) (rest := []) F hK (c_Lg_hasRoom l D cy ad (9 + tn) tp rw pt cn er rc re cg tn ln bg cp cb pn false op w HL HR HC HG HQ (by omega)) km_Tl_52 ki_Lg_hasRoom ks_Lg_hasRoom k0_Lg kc_Lg_hasRoom kd_Lg_hasRoom ⟨Nat.le_of_ble_eq_true rfl, Nat.le_of_ble_eq_true rfl⟩ (nw_recv hK.k hP (i := 3) (by decide) tl_3 rfl) (hP) (hI) hl.1 rfl (Nat.le_of_ble_eq_true rfl) d_Tl_append_52 ⟨(Nat.le_of_ble_eq_true rfl), (Nat.le_of_ble_eq_true rfl)⟩ hS (fun H1 locs1 hN hS => ?_)
  have hP := hN _ _ _ hP
  generalize H1 = H at hP hS ⊢
  refine lv_eqi (y := bI false) (by rw [hrm]) ?_
  refine lv_if_ne (tgt := 62) hx hb d_Tl_append_55 (by decide) (fun c55 => absurd (show bI false = 0 by decide) c55) (fun c55 => ?_)
  refine lv_iconst (v := nI 1) hx hb d_Tl_append_58 (by decide) ?_
  refine lv_goto (tgt := 63) hx hb d_Tl_append_59 (by decide) ?_
  refine lv_istore (lv' := [(4, .int (nI 1)), (0, .ref (ad 0)), (1, .int (nI kd)), (2, .int (nI mo)), (3, .int (nI k))]) hx hb d_Tl_append_63 hl (by decide) rfl (fun ls hl => ?_)
  refine lv_iload hx hb d_Tl_append_65 (lv_at hl 0 rfl) ?_
  refine lv_if_eq (tgt := 100) hx hb d_Tl_append_67 (by decide) (fun c67 => absurd c67 (show ¬ nI 1 = 0 by decide)) (fun c67 => ?_)
  refine lv_aload_n hx hb d_Tl_append_70 rfl (lv_at hl 1 rfl) ?_
  refine nw_get (D := D) (ci := 4) (C := R_Tl) (T := T_Tl) (N := 3) hx hb hts in_Tl hown hK.k hP (i := 0) (by decide) tl_0 rfl 1 (by decide) (hts _ kf_Tl_21) rfl d_Tl_append_71 ?_
  refine nw_getN (D := D) (ci := 3) (C := R_Lg) (T := T_Lg) (N := 7) hx hb hts in_Lg hown hK.k hP (i := 3) (by decide) tl_3 rfl 2 (by decide) (hK.nest 8 (by decide) rfl) rfl d_Tl_append_74 ?_
  refine lv_bipush (v := nI 24) hx hb d_Tl_append_77 (by decide) ?_
  refine lv_icmp_ne (tgt := 100) hx hb d_Tl_append_79 (by decide) (fun c79 => ?_) (fun c79 => absurd ((nI_eq (by omega) (by omega)).mp c79) h24)
  refine lv_iload hx hb d_Tl_append_100 (lv_at hl 0 rfl) ?_
  refine lv_if_eq (tgt := 115) hx hb d_Tl_append_102 (by decide) (fun c102 => absurd c102 (show ¬ nI 1 = 0 by decide)) (fun c102 => ?_)
  refine lv_aload_n hx hb d_Tl_append_105 rfl (lv_at hl 1 rfl) ?_
  refine nw_get (D := D) (ci := 4) (C := R_Tl) (T := T_Tl) (N := 3) hx hb hts in_Tl hown hK.k hP (i := 0) (by decide) tl_0 rfl 1 (by decide) (hts _ kf_Tl_21) rfl d_Tl_append_106 ?_
  have hsz := hS.1
  refine call_X (As := []) (rest := []) F hK hT km_Tl_64 ki_Lg_takeBlock ks_Lg_takeBlock k0_Lg kc_Lg_takeBlock kd_Lg_takeBlock ⟨(Nat.le_of_ble_eq_true rfl), (Nat.le_of_ble_eq_true rfl)⟩ (nw_recv hK.k hP (i := 3) (by decide) tl_3 rfl) hP hI hl.1 rfl (Nat.le_of_ble_eq_true rfl) d_Tl_append_109 ⟨(Nat.le_of_ble_eq_true rfl), (Nat.le_of_ble_eq_true rfl)⟩ hS (na_le hS) (fun ad' H1 locs1 hnx hP hk1 hS => ?_)
  have hnx := nxt_mono hnx hsz
  have hD := nxt_nd hnx
  generalize H1 = H at hP hS ⊢
  have hl : lv_has ls 6 [(4, .int (nI 1)), (0, .ref (ad' 0)), (1, .int (nI kd)), (2, .int (nI mo)), (3, .int (nI k))] := by rw [hnx.1 0 (by omega)]; exact hl
  refine lv_if_eq (tgt := 136) hx hb d_Tl_append_112 (by decide) (fun c112 => absurd c112 (show ¬ bI true = 0 by decide)) (fun c112 => ?_)
  refine lv_aload_n hx hb d_Tl_append_115 rfl (lv_at hl 1 rfl) ?_
  refine nw_get (D := D) (ci := 4) (C := R_Tl) (T := T_Tl) (N := 3) hx hb hts in_Tl hown hK.k hP (i := 0) (by decide) tl_0 rfl 1 (by decide) (hts _ kf_Tl_21) rfl d_Tl_append_116 ?_
  refine lv_iload_n hx hb d_Tl_append_119 rfl (lv_at hl 2 rfl) ?_
  refine lv_iload_n hx hb d_Tl_append_120 rfl (lv_at hl 3 rfl) ?_
  refine lv_iload_n hx hb d_Tl_append_121 rfl (lv_at hl 4 rfl) ?_
  refine lv_aload_n hx hb d_Tl_append_122 rfl (lv_at hl 1 rfl) ?_
  refine nw_get (D := D) (ci := 4) (C := R_Tl) (T := T_Tl) (N := 3) hx hb hts in_Tl hown hK.k hP (i := 0) (by decide) tl_0 rfl 0 (by decide) (hts _ kf_Tl_14) rfl d_Tl_append_123 ?_
  refine call_I (As := [.int (nI kd), .int (nI mo), .int (nI k), .ref (ad' 1)]) (rest := []) F hK (c_Lg_writeRecord0 l D cy ad' kd mo k tp rw2 pt2 cn2 er2 rc2 re2 cg2 tn ln2 bg2 cp2 cb2 pn2 false op2 w2 HL2 HR2 HC2 HG2 HQ2 hcp hcb hln hop hroom hcn h255 (by omega) (by omega) hkt (by omega) hmo htp hdn) km_Tl_68 ki_Lg_writeRecord ks_Lg_writeRecord k0_Lg kc_Lg_writeRecord kd_Lg_writeRecord ⟨Nat.le_of_ble_eq_true rfl, Nat.le_of_ble_eq_true rfl⟩ (nw_recv hK.k hP (i := 3) (by decide) tl_3 rfl) (hP) (hD.1) hl.1 rfl (Nat.le_of_ble_eq_true rfl) d_Tl_append_126 ⟨(Nat.le_of_ble_eq_true rfl), (Nat.le_of_ble_eq_true rfl)⟩ hS (nxt_le hnx hS) (fun H1 locs1 hP1 hk1 hS => ?_)
  have hP : nw D vcl PT ad' (tlC cy ad' tp tn false rw2 ln2 op2 bg2 (cutW w2 cp2) (cutP w2 cp2) cb2 (RB pt2 kd mo k tn tp) (9 + tn) cn2 (va_up cg2 (rw2 (ln2 - 1)) (upN (cg2 (rw2 (ln2 - 1))) (re2 (rw2 (ln2 - 1))) (RB pt2 kd mo k tn tp) (cutN w2 cp2 cb2 (9 + tn)))) er2 rc2 re2) H1 := hP1
  generalize H1 = H at hP hS ⊢
  refine lv_if_eq (tgt := 136) hx hb d_Tl_append_129 (by decide) (fun c129 => ?_) (fun c129 => absurd (show bI false = 0 by decide) c129)
  refine lv_iconst (v := nI 0) hx hb d_Tl_append_136 (by decide) ?_
  refine lv_istore (lv' := [(5, .int (nI 0)), (4, .int (nI 1)), (0, .ref (ad' 0)), (1, .int (nI kd)), (2, .int (nI mo)), (3, .int (nI k))]) hx hb d_Tl_append_137 hl (by decide) rfl (fun ls hl => ?_)
  refine lv_aload_n hx hb d_Tl_append_139 rfl (lv_at hl 2 rfl) ?_
  refine nw_get (D := D) (ci := 4) (C := R_Tl) (T := T_Tl) (N := 3) hx hb hts in_Tl hown hK.k hP (i := 0) (by decide) tl_0 rfl 0 (by decide) (hts _ kf_Tl_14) rfl d_Tl_append_140 ?_
  refine lv_iconst (v := nI 0) hx hb d_Tl_append_143 (by decide) ?_
  refine nw_putN (D := D) (ci := 1) (C := R_By) (T := T_By) (N := 2) hx hb hts in_By ty_By tk_By nm_By hown hK.k hP hD hS (i := 1) (by decide) tl_1 rfl 1 (by decide) (hK.nest 0 (by decide) rfl) rfl rfl rfl (Nat.le_of_ble_eq_true rfl) d_Tl_append_144 (fun H locs hP hS hz hq => ?_)
  have hP : nw D vcl PT ad' (tlC cy ad' tp 0 false rw2 ln2 op2 bg2 (cutW w2 cp2) (cutP w2 cp2) cb2 (RB pt2 kd mo k tn tp) (9 + tn) cn2 (va_up cg2 (rw2 (ln2 - 1)) (upN (cg2 (rw2 (ln2 - 1))) (re2 (rw2 (ln2 - 1))) (RB pt2 kd mo k tn tp) (cutN w2 cp2 cb2 (9 + tn)))) er2 rc2 re2) H := nw_congr hP (tlu_tn)
  refine lv_iload hx hb d_Tl_append_147 (lv_at hl 0 rfl) ?_
  refine lv_if_ne (tgt := 167) hx hb d_Tl_append_149 (by decide) (fun c149 => absurd (show nI 0 = 0 by decide) c149) (fun c149 => ?_)
  refine lv_aload_n hx hb d_Tl_append_152 rfl (lv_at hl 2 rfl) ?_
  refine lv_iconst (v := bI true) hx hb d_Tl_append_153 (by decide) ?_
  refine nw_put (D := D) (ci := 4) (C := R_Tl) (T := T_Tl) (N := 3) hx hb hts in_Tl ty_Tl tk_Tl nm_Tl hown hK.k hP hD hS (i := 0) (by decide) tl_0 rfl 2 (by decide) (hts _ kf_Tl_25) rfl (bI_nar _) (bI_fit _) (Nat.le_of_ble_eq_true rfl) d_Tl_append_154 (fun H locs hP hS hz hq => ?_)
  have hP : nw D vcl PT ad' (tlC cy ad' tp 0 true rw2 ln2 op2 bg2 (cutW w2 cp2) (cutP w2 cp2) cb2 (RB pt2 kd mo k tn tp) (9 + tn) cn2 (va_up cg2 (rw2 (ln2 - 1)) (upN (cg2 (rw2 (ln2 - 1))) (re2 (rw2 (ln2 - 1))) (RB pt2 kd mo k tn tp) (cutN w2 cp2 cb2 (9 + tn)))) er2 rc2 re2) H := nw_congr hP (tlu_dn)
  exact thr_IS F hl0 hX (List.mem_of_getElem? (i := 5) rfl) hS (na_lo hX hlo) hl.1 d_Tl_append_157 d_Tl_append_160 d_Tl_append_161 d_Tl_append_163 d_Tl_append_166 hex ⟨(Nat.le_of_ble_eq_true rfl), (Nat.le_of_ble_eq_true rfl)⟩ (Nat.le_of_ble_eq_true rfl) (Nat.le_of_ble_eq_true rfl) hlk (fun t _ hz hk => fin_U hP hnx hS hz hk) hS.2.2 (Nat.le_of_ble_eq_true rfl) (Nat.le_of_ble_eq_true rfl)
set_option maxRecDepth 100000 in
set_option maxHeartbeats 4000000 in
theorem c_Tl_append11 (l : Launch) (D : va_G) (cy : Nat → ClassId) (ad : Nat → Nat) (tp rw pt cn er rc re : Nat → Nat) (cg : Nat → Nat → Nat) (tn ln bg cp cb pn : Nat) (dn op w : Bool) (kd mo k : Nat) (hkd1 : 1 ≤ kd) (hkd2 : kd ≤ 15) (hmo : mo < 2 ^ 31) (hk : k ≤ 45) (hkt : k ≤ tn) (htk : tn ≤ k + 1000) (HL : ln ≤ 24) (HR : ∀ i, i < ln → rw i < 24) (HC : ∀ b, b < 24 → cn b < 2 ^ 16) (HG : ∀ b, b < 24 → ∀ j, j < cn b → cg b j < 256) (HQ : ∀ b, b < 24 → rc b < 2 ^ 16 ∧ re b < 2 ^ 16) (hrm : (op && (decide (0 < ln) && decide (re (rw (ln - 1)) + (9 + tn) ≤ 2046))) = false) (h24 : ln ≠ 24) (rw2 pt2 cn2 er2 rc2 re2 : Nat → Nat) (cg2 : Nat → Nat → Nat) (ln2 bg2 cp2 cb2 pn2 : Nat) (op2 w2 : Bool) (hT : mtX l y_Lg_takeBlock b_Lg_takeBlock 2 (some .boolean) { frames := 5, cells := 1, slots := 2048, locals := 110 } D cy [.ref (ad 3)] ad (tlC cy ad tp tn false rw ln op bg w cp cb pt pn cn cg er rc re) (fun ad' => tlC cy ad' tp tn false rw2 ln2 op2 bg2 w2 cp2 cb2 pt2 pn2 cn2 cg2 er2 rc2 re2) (bI true)) (HL2 : ln2 ≤ 24) (HR2 : ∀ i, i < ln2 → rw2 i < 24) (HC2 : ∀ b, b < 24 → cn2 b < 2 ^ 16) (HG2 : ∀ b, b < 24 → ∀ j, j < cn2 b → cg2 b j < 256) (HQ2 : ∀ b, b < 24 → rc2 b < 2 ^ 16 ∧ re2 b < 2 ^ 16) (hcp : cp2 < 2 ^ 31) (hcb : cb2 < 2 ^ 31) (hln : 0 < ln2) (hop : op2 = true) (hroom : re2 (rw2 (ln2 - 1)) + (9 + tn) ≤ 2046) (hcn : 2046 ≤ cn2 (rw2 (ln2 - 1))) (h255 : ∀ j, j < 9 + tn → cg2 (rw2 (ln2 - 1)) (re2 (rw2 (ln2 - 1)) + j) = 255) (htp : ∀ j, j < tn → tp j < 256) (hdn : cutN w2 cp2 cb2 (9 + tn) = 9 + tn) : mtX l y_Tl_append b_Tl_append 6 (some .int) RT D cy [.ref (ad 0), .int (nI kd), .int (nI mo), .int (nI k)] ad (tlC cy ad tp tn false rw ln op bg w cp cb pt pn cn cg er rc re) (fun ad' => tlC cy ad' tp 0 false rw2 ln2 op2 bg2 (cutW w2 cp2) (cutP w2 cp2) cb2 (RB pt2 kd mo k tn tp) (9 + tn) cn2 (va_up cg2 (rw2 (ln2 - 1)) (upN (cg2 (rw2 (ln2 - 1))) (re2 (rw2 (ln2 - 1))) (RB pt2 kd mo k tn tp) (9 + tn))) er2 (va_up rc2 (rw2 (ln2 - 1)) (rc2 (rw2 (ln2 - 1)) + 1)) (va_up re2 (rw2 (ln2 - 1)) (re2 (rw2 (ln2 - 1)) + (9 + tn)))) (nI (rc2 (rw2 (ln2 - 1)) + 1)) := by
  intro sz
  refine nm_ofW (cc := b_Tl_append) (maxL := 6) (ret := (some .int)) (own := R_Tl) (by decide) (Nat.le_of_ble_eq_true rfl) rfl ?_
  intro p e s m below meth c ls F hr hlk hnm hv hl
  obtain ⟨hx, hb, hml, hown, hts⟩ := id F
  obtain ⟨rfl, hP, hK, hI⟩ := hv
  have hD : nd (na PT ad s.heap.size) PT ad := nd_self hI
  have hA : ∀ q, s.heap.size ≤ q → na PT ad s.heap.size q := fun q h => Or.inr h
  have hS : va_S (na PT ad s.heap.size) s.heap s.heap [] := va_S.rf
  have hl : lv_has ls 6 [(0, .ref (ad 0)), (1, .int (nI kd)), (2, .int (nI mo)), (3, .int (nI k))] := hl
  refine lv_iload_n hx hb d_Tl_append_0 rfl (lv_at hl 1 rfl) ?_
  refine lv_iconst (v := nI 1) hx hb d_Tl_append_1 (by decide) ?_
  refine lv_bipush (v := nI 15) hx hb d_Tl_append_2 (by decide) ?_
  refine call_SN (As := [.int (nI kd), .int (nI 1), .int (nI 15)]) (rest := []) F (c_Tl_refuseOutside0 l (nI kd) (nI 1) (nI 15) (mt (nI_ltI (by omega) (by omega)).mp (by omega)) (mt (nI_ltI (by omega) (by omega)).mp (by omega))) km_Tl_42 kt_Tl_refuseOutside k0_Tl kc_Tl_refuseOutside kd_Tl_refuseOutside ⟨(Nat.le_of_ble_eq_true rfl), (Nat.le_of_ble_eq_true rfl)⟩ hl.1 rfl (Nat.le_of_ble_eq_true rfl) d_Tl_append_4 ⟨(Nat.le_of_ble_eq_true rfl), (Nat.le_of_ble_eq_true rfl)⟩ hS (fun H1 locs1 hN hS => ?_)
  have hP := hN _ _ _ _ hP
  generalize H1 = H at hP hS ⊢
  refine lv_iload_n hx hb d_Tl_append_7 rfl (lv_at hl 2 rfl) ?_
  refine call_SN (As := [.int (nI mo)]) (rest := []) F (c_Tl_refuseNegative0 l (nI mo) (nI_pos hmo)) km_Tl_49 kt_Tl_refuseNegative k0_Tl kc_Tl_refuseNegative kd_Tl_refuseNegative ⟨(Nat.le_of_ble_eq_true rfl), (Nat.le_of_ble_eq_true rfl)⟩ hl.1 rfl (Nat.le_of_ble_eq_true rfl) d_Tl_append_8 ⟨(Nat.le_of_ble_eq_true rfl), (Nat.le_of_ble_eq_true rfl)⟩ hS (fun H1 locs1 hN hS => ?_)
  have hP := hN _ _ _ _ hP
  generalize H1 = H at hP hS ⊢
  refine lv_iload_n hx hb d_Tl_append_11 rfl (lv_at hl 3 rfl) ?_
  refine lv_iconst (v := nI 0) hx hb d_Tl_append_12 (by decide) ?_
  refine lv_bipush (v := nI 45) hx hb d_Tl_append_13 (by decide) ?_
  refine call_SN (As := [.int (nI k), .int (nI 0), .int (nI 45)]) (rest := []) F (c_Tl_refuseOutside0 l (nI k) (nI 0) (nI 45) (mt (nI_ltI (by omega) (by omega)).mp (by omega)) (mt (nI_ltI (by omega) (by omega)).mp (by omega))) km_Tl_42 kt_Tl_refuseOutside k0_Tl kc_Tl_refuseOutside kd_Tl_refuseOutside ⟨(Nat.le_of_ble_eq_true rfl), (Nat.le_of_ble_eq_true rfl)⟩ hl.1 rfl (Nat.le_of_ble_eq_true rfl) d_Tl_append_15 ⟨(Nat.le_of_ble_eq_true rfl), (Nat.le_of_ble_eq_true rfl)⟩ hS (fun H1 locs1 hN hS => ?_)
  have hP := hN _ _ _ _ hP
  generalize H1 = H at hP hS ⊢
  refine lv_aload_n hx hb d_Tl_append_18 rfl (lv_at hl 0 rfl) ?_
  refine nw_get (D := D) (ci := 4) (C := R_Tl) (T := T_Tl) (N := 3) hx hb hts in_Tl hown hK.k hP (i := 0) (by decide) tl_0 rfl 0 (by decide) (hts _ kf_Tl_14) rfl d_Tl_append_19 ?_
  refine nw_getN (D := D) (ci := 1) (C := R_By) (T := T_By) (N := 2) hx hb hts in_By hown hK.k hP (i := 1) (by decide) tl_1 rfl 1 (by decide) (hK.nest 0 (by decide) rfl) rfl d_Tl_append_22 ?_
  refine lv_iload_n hx hb d_Tl_append_25 rfl (lv_at hl 3 rfl) ?_
  refine lv_iload_n hx hb d_Tl_append_26 rfl (lv_at hl 3 rfl) ?_
  refine lv_sipush (v := nI 1000) hx hb d_Tl_append_27 (by decide) ?_
  refine lv_iadd hx hb d_Tl_append_30 ?_
  refine lv_eqi (nI_add _ _) ?_
  refine call_SN (As := [.int (nI tn), .int (nI k), .int (nI (k + 1000))]) (rest := []) F (c_Tl_refuseOutside0 l (nI tn) (nI k) (nI (k + 1000)) (mt (nI_ltI (by omega) (by omega)).mp (by omega)) (mt (nI_ltI (by omega) (by omega)).mp (by omega))) km_Tl_42 kt_Tl_refuseOutside k0_Tl kc_Tl_refuseOutside kd_Tl_refuseOutside ⟨(Nat.le_of_ble_eq_true rfl), (Nat.le_of_ble_eq_true rfl)⟩ hl.1 rfl (Nat.le_of_ble_eq_true rfl) d_Tl_append_31 ⟨(Nat.le_of_ble_eq_true rfl), (Nat.le_of_ble_eq_true rfl)⟩ hS (fun H1 locs1 hN hS => ?_)
  have hP := hN _ _ _ _ hP
  generalize H1 = H at hP hS ⊢
  refine lv_aload_n hx hb d_Tl_append_34 rfl (lv_at hl 0 rfl) ?_
  refine call_N (As := []) (rest := []) F hK (c_Tl_refuseWhenDown0 l D cy ad tp rw pt cn er rc re cg tn ln bg cp cb pn false op w) km_Tl_29 ki_Tl_refuseWhenDown ks_Tl_refuseWhenDown k0_Tl kc_Tl_refuseWhenDown kd_Tl_refuseWhenDown ⟨(Nat.le_of_ble_eq_true rfl), (Nat.le_of_ble_eq_true rfl)⟩ (nw_recv hK.k hP (i := 0) (by decide) tl_0 rfl) (hP) (hI) hl.1 rfl (Nat.le_of_ble_eq_true rfl) d_Tl_append_35 ⟨(Nat.le_of_ble_eq_true rfl), (Nat.le_of_ble_eq_true rfl)⟩ hS (fun H1 locs1 hN hS => ?_)
  have hP := hN _ _ _ hP
  generalize H1 = H at hP hS ⊢
  refine lv_aload_n hx hb d_Tl_append_38 rfl (lv_at hl 0 rfl) ?_
  refine nw_get (D := D) (ci := 4) (C := R_Tl) (T := T_Tl) (N := 3) hx hb hts in_Tl hown hK.k hP (i := 0) (by decide) tl_0 rfl 1 (by decide) (hts _ kf_Tl_21) rfl d_Tl_append_39 ?_
  refine lv_bipush (v := nI 9) hx hb d_Tl_append_42 (by decide) ?_
  refine lv_aload_n hx hb d_Tl_append_44 rfl (lv_at hl 0 rfl) ?_
  refine nw_get (D := D) (ci := 4) (C := R_Tl) (T := T_Tl) (N := 3) hx hb hts in_Tl hown hK.k hP (i := 0) (by decide) tl_0 rfl 0 (by decide) (hts _ kf_Tl_14) rfl d_Tl_append_45 ?_
  refine nw_getN (D := D) (ci := 1) (C := R_By) (T := T_By) (N := 2) hx hb hts in_By hown hK.k hP (i := 1) (by decide) tl_1 rfl 1 (by decide) (hK.nest 0 (by decide) rfl) rfl d_Tl_append_48 ?_
  refine lv_iadd hx hb d_Tl_append_51 ?_
  refine lv_eqi (nI_add _ _) ?_
  refine call_R (As := [.int (nI (9 + tn))]) (rest := []) F hK (c_Lg_hasRoom l D cy ad (9 + tn) tp rw pt cn er rc re cg tn ln bg cp cb pn false op w HL HR HC HG HQ (by omega)) km_Tl_52 ki_Lg_hasRoom ks_Lg_hasRoom k0_Lg kc_Lg_hasRoom kd_Lg_hasRoom ⟨Nat.le_of_ble_eq_true rfl, Nat.le_of_ble_eq_true rfl⟩ (nw_recv hK.k hP (i := 3) (by decide) tl_3 rfl) (hP) (hI) hl.1 rfl (Nat.le_of_ble_eq_true rfl) d_Tl_append_52 ⟨(Nat.le_of_ble_eq_true rfl), (Nat.le_of_ble_eq_true rfl)⟩ hS (fun H1 locs1 hN hS => ?_)
  have hP := hN _ _ _ hP
  generalize H1 = H at hP hS ⊢
  refine lv_eqi (y := bI false) (by rw [hrm]) ?_
  refine lv_if_ne (tgt := 62) hx hb d_Tl_append_55 (by decide) (fun c55 => absurd (show bI false = 0 by decide) c55) (fun c55 => ?_)
  refine lv_iconst (v := nI 1) hx hb d_Tl_append_58 (by decide) ?_
  refine lv_goto (tgt := 63) hx hb d_Tl_append_59 (by decide) ?_
  refine lv_istore (lv' := [(4, .int (nI 1)), (0, .ref (ad 0)), (1, .int (nI kd)), (2, .int (nI mo)), (3, .int (nI k))]) hx hb d_Tl_append_63 hl (by decide) rfl (fun ls hl => ?_)
  refine lv_iload hx hb d_Tl_append_65 (lv_at hl 0 rfl) ?_
  refine lv_if_eq (tgt := 100) hx hb d_Tl_append_67 (by decide) (fun c67 => absurd c67 (show ¬ nI 1 = 0 by decide)) (fun c67 => ?_)
  refine lv_aload_n hx hb d_Tl_append_70 rfl (lv_at hl 1 rfl) ?_
  refine nw_get (D := D) (ci := 4) (C := R_Tl) (T := T_Tl) (N := 3) hx hb hts in_Tl hown hK.k hP (i := 0) (by decide) tl_0 rfl 1 (by decide) (hts _ kf_Tl_21) rfl d_Tl_append_71 ?_
  refine nw_getN (D := D) (ci := 3) (C := R_Lg) (T := T_Lg) (N := 7) hx hb hts in_Lg hown hK.k hP (i := 3) (by decide) tl_3 rfl 2 (by decide) (hK.nest 8 (by decide) rfl) rfl d_Tl_append_74 ?_
  refine lv_bipush (v := nI 24) hx hb d_Tl_append_77 (by decide) ?_
  refine lv_icmp_ne (tgt := 100) hx hb d_Tl_append_79 (by decide) (fun c79 => ?_) (fun c79 => absurd ((nI_eq (by omega) (by omega)).mp c79) h24)
  refine lv_iload hx hb d_Tl_append_100 (lv_at hl 0 rfl) ?_
  refine lv_if_eq (tgt := 115) hx hb d_Tl_append_102 (by decide) (fun c102 => absurd c102 (show ¬ nI 1 = 0 by decide)) (fun c102 => ?_)
  refine lv_aload_n hx hb d_Tl_append_105 rfl (lv_at hl 1 rfl) ?_
  refine nw_get (D := D) (ci := 4) (C := R_Tl) (T := T_Tl) (N := 3) hx hb hts in_Tl hown hK.k hP (i := 0) (by decide) tl_0 rfl 1 (by decide) (hts _ kf_Tl_21) rfl d_Tl_append_106 ?_
  have hsz := hS.1
  refine call_X (As := []) (rest := []) F hK hT km_Tl_64 ki_Lg_takeBlock ks_Lg_takeBlock k0_Lg kc_Lg_takeBlock kd_Lg_takeBlock ⟨(Nat.le_of_ble_eq_true rfl), (Nat.le_of_ble_eq_true rfl)⟩ (nw_recv hK.k hP (i := 3) (by decide) tl_3 rfl) hP hI hl.1 rfl (Nat.le_of_ble_eq_true rfl) d_Tl_append_109 ⟨(Nat.le_of_ble_eq_true rfl), (Nat.le_of_ble_eq_true rfl)⟩ hS (na_le hS) (fun ad' H1 locs1 hnx hP hk1 hS => ?_)
  have hnx := nxt_mono hnx hsz
  have hD := nxt_nd hnx
  generalize H1 = H at hP hS ⊢
  have hl : lv_has ls 6 [(4, .int (nI 1)), (0, .ref (ad' 0)), (1, .int (nI kd)), (2, .int (nI mo)), (3, .int (nI k))] := by rw [hnx.1 0 (by omega)]; exact hl
  refine lv_if_eq (tgt := 136) hx hb d_Tl_append_112 (by decide) (fun c112 => absurd c112 (show ¬ bI true = 0 by decide)) (fun c112 => ?_)
  refine lv_aload_n hx hb d_Tl_append_115 rfl (lv_at hl 1 rfl) ?_
  refine nw_get (D := D) (ci := 4) (C := R_Tl) (T := T_Tl) (N := 3) hx hb hts in_Tl hown hK.k hP (i := 0) (by decide) tl_0 rfl 1 (by decide) (hts _ kf_Tl_21) rfl d_Tl_append_116 ?_
  refine lv_iload_n hx hb d_Tl_append_119 rfl (lv_at hl 2 rfl) ?_
  refine lv_iload_n hx hb d_Tl_append_120 rfl (lv_at hl 3 rfl) ?_
  refine lv_iload_n hx hb d_Tl_append_121 rfl (lv_at hl 4 rfl) ?_
  refine lv_aload_n hx hb d_Tl_append_122 rfl (lv_at hl 1 rfl) ?_
  refine nw_get (D := D) (ci := 4) (C := R_Tl) (T := T_Tl) (N := 3) hx hb hts in_Tl hown hK.k hP (i := 0) (by decide) tl_0 rfl 0 (by decide) (hts _ kf_Tl_14) rfl d_Tl_append_123 ?_
  refine call_I (As := [.int (nI kd), .int (nI mo), .int (nI k), .ref (ad' 1)]) (rest := []) F hK (c_Lg_writeRecord1 l D cy ad' kd mo k tp rw2 pt2 cn2 er2 rc2 re2 cg2 tn ln2 bg2 cp2 cb2 pn2 false op2 w2 HL2 HR2 HC2 HG2 HQ2 hcp hcb hln hop hroom hcn h255 (by omega) (by omega) hkt (by omega) hmo htp hdn) km_Tl_68 ki_Lg_writeRecord ks_Lg_writeRecord k0_Lg kc_Lg_writeRecord kd_Lg_writeRecord ⟨Nat.le_of_ble_eq_true rfl, Nat.le_of_ble_eq_true rfl⟩ (nw_recv hK.k hP (i := 3) (by decide) tl_3 rfl) (hP) (hD.1) hl.1 rfl (Nat.le_of_ble_eq_true rfl) d_Tl_append_126 ⟨(Nat.le_of_ble_eq_true rfl), (Nat.le_of_ble_eq_true rfl)⟩ hS (nxt_le hnx hS) (fun H1 locs1 hP1 hk1 hS => ?_)
  have hP : nw D vcl PT ad' (tlC cy ad' tp tn false rw2 ln2 op2 bg2 (cutW w2 cp2) (cutP w2 cp2) cb2 (RB pt2 kd mo k tn tp) (9 + tn) cn2 (va_up cg2 (rw2 (ln2 - 1)) (upN (cg2 (rw2 (ln2 - 1))) (re2 (rw2 (ln2 - 1))) (RB pt2 kd mo k tn tp) (9 + tn))) er2 (va_up rc2 (rw2 (ln2 - 1)) (rc2 (rw2 (ln2 - 1)) + 1)) (va_up re2 (rw2 (ln2 - 1)) (re2 (rw2 (ln2 - 1)) + (9 + tn)))) H1 := hP1
  generalize H1 = H at hP hS ⊢
  refine lv_if_eq (tgt := 136) hx hb d_Tl_append_129 (by decide) (fun c129 => absurd c129 (show ¬ bI true = 0 by decide)) (fun c129 => ?_)
  refine lv_iconst (v := nI 1) hx hb d_Tl_append_132 (by decide) ?_
  refine lv_goto (tgt := 137) hx hb d_Tl_append_133 (by decide) ?_
  refine lv_istore (lv' := [(5, .int (nI 1)), (4, .int (nI 1)), (0, .ref (ad' 0)), (1, .int (nI kd)), (2, .int (nI mo)), (3, .int (nI k))]) hx hb d_Tl_append_137 hl (by decide) rfl (fun ls hl => ?_)
  refine lv_aload_n hx hb d_Tl_append_139 rfl (lv_at hl 2 rfl) ?_
  refine nw_get (D := D) (ci := 4) (C := R_Tl) (T := T_Tl) (N := 3) hx hb hts in_Tl hown hK.k hP (i := 0) (by decide) tl_0 rfl 0 (by decide) (hts _ kf_Tl_14) rfl d_Tl_append_140 ?_
  refine lv_iconst (v := nI 0) hx hb d_Tl_append_143 (by decide) ?_
  refine nw_putN (D := D) (ci := 1) (C := R_By) (T := T_By) (N := 2) hx hb hts in_By ty_By tk_By nm_By hown hK.k hP hD hS (i := 1) (by decide) tl_1 rfl 1 (by decide) (hK.nest 0 (by decide) rfl) rfl rfl rfl (Nat.le_of_ble_eq_true rfl) d_Tl_append_144 (fun H locs hP hS hz hq => ?_)
  have hP : nw D vcl PT ad' (tlC cy ad' tp 0 false rw2 ln2 op2 bg2 (cutW w2 cp2) (cutP w2 cp2) cb2 (RB pt2 kd mo k tn tp) (9 + tn) cn2 (va_up cg2 (rw2 (ln2 - 1)) (upN (cg2 (rw2 (ln2 - 1))) (re2 (rw2 (ln2 - 1))) (RB pt2 kd mo k tn tp) (9 + tn))) er2 (va_up rc2 (rw2 (ln2 - 1)) (rc2 (rw2 (ln2 - 1)) + 1)) (va_up re2 (rw2 (ln2 - 1)) (re2 (rw2 (ln2 - 1)) + (9 + tn)))) H := nw_congr hP (tlu_tn)
  refine lv_iload hx hb d_Tl_append_147 (lv_at hl 0 rfl) ?_
  refine lv_if_ne (tgt := 167) hx hb d_Tl_append_149 (by decide) (fun c149 => ?_) (fun c149 => absurd c149 (by decide))
  refine lv_aload_n hx hb d_Tl_append_167 rfl (lv_at hl 2 rfl) ?_
  refine nw_get (D := D) (ci := 4) (C := R_Tl) (T := T_Tl) (N := 3) hx hb hts in_Tl hown hK.k hP (i := 0) (by decide) tl_0 rfl 1 (by decide) (hts _ kf_Tl_21) rfl d_Tl_append_168 ?_
  refine call_R (As := []) (rest := []) F hK (c_Lg_recordsOfLast l D cy ad' tp rw2 (RB pt2 kd mo k tn tp) cn2 er2 (va_up rc2 (rw2 (ln2 - 1)) (rc2 (rw2 (ln2 - 1)) + 1)) (va_up re2 (rw2 (ln2 - 1)) (re2 (rw2 (ln2 - 1)) + (9 + tn))) (va_up cg2 (rw2 (ln2 - 1)) (upN (cg2 (rw2 (ln2 - 1))) (re2 (rw2 (ln2 - 1))) (RB pt2 kd mo k tn tp) (9 + tn))) 0 ln2 bg2 (cutP w2 cp2) cb2 (9 + tn) false op2 (cutW w2 cp2) HL2 HR2 hln) km_Tl_77 ki_Lg_recordsOfLast ks_Lg_recordsOfLast k0_Lg kc_Lg_recordsOfLast kd_Lg_recordsOfLast ⟨Nat.le_of_ble_eq_true rfl, Nat.le_of_ble_eq_true rfl⟩ (nw_recv hK.k hP (i := 3) (by decide) tl_3 rfl) (hP) (hD.1) hl.1 rfl (Nat.le_of_ble_eq_true rfl) d_Tl_append_171 ⟨(Nat.le_of_ble_eq_true rfl), (Nat.le_of_ble_eq_true rfl)⟩ hS (fun H1 locs1 hN hS => ?_)
  have hP := hN _ _ _ hP
  generalize H1 = H at hP hS ⊢
  refine lv_eqi (y := nI (rc2 (rw2 (ln2 - 1)) + 1)) (by rw [va_up_self]) ?_
  refine W.widen (k := 2) (n := 2054) (Nat.le_of_ble_eq_true rfl) (Nat.le_of_ble_eq_true rfl) ?_
  exact W.zret hx hb hr rfl (fun t ht hW => ⟨⟨_, ad', rfl, ⟨rfl, hnx⟩, by show nw _ _ _ _ _ t.heap; rw [ht]; exact hP⟩, hS.F ht⟩) hS.2.2 d_Tl_append_174 hlk

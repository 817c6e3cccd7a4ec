/-! what is made, at the heap's next address; constructors -/
section NF
variable {p : Program} {l : Launch} {e : Env} {R : Room} {s : State} {m : MethodId} {args : Array Value} {below : List Frame} {meth : Method} {c : Code} {H : Heap} {locs : List Loc} {cells slots : Nat} {Q : State → Prop}
variable {cc : ByteArray} {pc nL : Nat} {ls : Array Slot} {rest st0 : List Value} {D : va_G} {cl : List vw_C} {A : Nat → Prop} {tys : List (ClassId × FieldType)} {H0 : Heap} {P : Nat → Prop} {ad : Nat → Nat} {ct : Nat → va_E}
theorem nf_nd {P' : Nat → Prop} {i : Nat} (hD : nd A P ad) (hS : va_S A H0 H locs) (hA : ∀ q, H0.size ≤ q → A q) (hi : ad i = H.size) (hP' : ∀ j, P' j → j ≠ i → P j) (hinj : ∀ j k, P' j → P' k → ad j = ad k → j = k) : nd A P' ad := by
  refine ⟨hinj, fun j hj => ?_⟩
  by_cases h : j = i
  · rw [h, hi]; exact hA _ hS.1
  · exact hD.2 j (hP' j hj h)
theorem nf_new {P' : Nat → Prop} {H1 : Heap} (hP : nw D cl P ad ct H) {i : Nat} {x : va_E} (hat : va_at D cl (ad i, x) H1) (hk : ∀ q : Nat, q < H.size → H1[q]? = H[q]?) (hP' : ∀ j, P' j → j ≠ i → P j) : nw D cl P' ad (va_up ct i x) H1 := by
  intro j hj
  by_cases h1 : j = i
  · rw [h1, va_up_self]; exact hat
  · rw [va_up_ne _ _ h1]
    exact (hP j (hP' j hj h1)).kept (hk _ (nw_lt hP (hP' j hj h1)))
theorem nf_newr (hexec : p.tables.exec = Jvm.exec) (hb : c.code = cc) {atype : ArrayType} (harr : (Cond.arrayClass (newarray.typeOf atype)).before args s = true) {ty : FieldType} (hty : newarray.typeOf atype = ty) (hP : nw D cl P ad ct H) (hD : nd A P ad) (hS : va_S A H0 H locs) (hA : ∀ q, H0.size ≤ q → A q) {cA : ClassId} (hcA : s.vm.findClass ("[" ++ ty.toString) = some cA)
    {n : Int32} {N' : Nat} {a0 : vp_A} (ha : ∀ cA : ClassId, vp_cell cA a0 = arrV cA N' (fun _ => defaultValue ty)) (hn : ¬ n < 0) (hN : n.toNatClampNeg = N') (hbytes : N' * componentBytes ty ≤ 536870912) (hcells : cells + 1 ≤ R.cells) (hslots : slots + N' ≤ R.slots) (hdg : decode cc pc = .ok (.newarray atype, 2)) (i : Nat) (P' : Nat → Prop) (hP' : ∀ j, P' j → j ≠ i → P j) (hi : ad i = H.size) (hinj : ∀ j k, P' j → P' k → ad j = ad k → j = k)
    (kk : ∀ (H1 : Heap), H1.size = H.size + 1 → nw D cl P' ad (va_up ct i (.inl (cA, a0))) H1 → nd A P' ad → va_S A H0 H1 locs → W p l e R s m args below meth c H1 locs (cells + 1) (slots + N') Q (F0 m (pc + 2) ls (.ref (ad i) :: rest))) : W p l e R s m args below meth c H locs cells slots Q (F0 m pc ls (.int n :: rest)) := by
  subst hty
  refine va_newaK hexec hb harr rfl hdg rfl hn hN hbytes hcells hslots rfl fun H1 cA' e1 z1 o1 hAr hNm => ?_
  obtain rfl : cA' = cA := Option.some.inj (hNm.symm.trans hcA)
  rw [← hi]
  refine kk H1 z1 (nf_new hP ?_ o1 hP') (nf_nd hD hS hA hi hP' hinj) ⟨Nat.le_trans hS.1 (by omega), fun x h1 h2 => (o1 x (Nat.lt_of_lt_of_le h1 hS.1)).trans (hS.2.1 x h1 h2), hS.2.2⟩
  show H1[ad i]? = some (vp_cell _ _)
  rw [ha, hi]
  exact e1
theorem nf_newo (hexec : p.tables.exec = Jvm.exec) (hb : c.code = cc) {own C : String} {T : u_T} {N ci index : Nat} {Ts : List Cond} (hts : ∀ w ∈ Ts, w.before args s = true) (hin : ∀ w ∈ u_ws C T N, w ∈ Ts) (ty : Nat → FieldType) (hty : ∀ k, k < N → parseFieldDescriptor (T k).2.2.1 = some (ty k)) (hown : s.vm.findClass own = some m.cls) (hcl : (Cond.classLink own index C).before args s = true) (hinst : (Cond.instantiable C N).before args s = true) (hini : (Cond.initialized C).before args s = true)
    (hK : va_K D cl tys s) (hP : nw D cl P ad ct H) (hD : nd A P ad) (hS : va_S A H0 H locs) (hA : ∀ q, H0.size ≤ q → A q) (hc : cl[ci]? = some (C, T, N)) {fs : List Value} (hfs : ∀ j, j < N → defaultValue (ty j) = vp_V fs j) (hcells : cells + 1 ≤ R.cells) (hslots : slots + N ≤ R.slots) (hdg : decode cc pc = .ok (.new index, 3)) (i : Nat) (P' : Nat → Prop) (hP' : ∀ j, P' j → j ≠ i → P j) (hi : ad i = H.size) (hinj : ∀ j k, P' j → P' k → ad j = ad k → j = k)
    (kk : ∀ (H1 : Heap), H1.size = H.size + 1 → nw D cl P' ad (va_up ct i (.inr (ci, fs))) H1 → nd A P' ad → va_S A H0 H1 locs → W p l e R s m args below meth c H1 locs (cells + 1) (slots + N) Q (F0 m (pc + 3) ls (.ref (ad i) :: rest))) : W p l e R s m args below meth c H locs cells slots Q (F0 m pc ls rest) := by
  have hKn := hK.1 ci _ hc
  refine W.newcK hexec hb hown hcl hinst hini rfl hdg hcells hslots hKn.2.1 rfl fun H1 kC hkC e1 z1 o1 => ?_
  rw [← hi] at e1 ⊢
  exact kk H1 z1 (nf_new hP ⟨_, hc, (u_born ty hts hin hKn hkC e1 hty).to hfs⟩ o1 hP') (nf_nd hD hS hA hi hP' hinj) ⟨Nat.le_trans hS.1 (by omega), fun x h1 h2 => (o1 x (Nat.lt_of_lt_of_le h1 hS.1)).trans (hS.2.1 x h1 h2), hS.2.2⟩
theorem nf_newq (hexec : p.tables.exec = Jvm.exec) (hb : c.code = cc) {own C : String} {index : Nat} (hown : s.vm.findClass own = some m.cls) (hclink : (Cond.classLink own index C).before args s = true) (hover : va_AO C s) (hP : nw D cl P ad ct H) (hD : nd A P ad) (hS : va_S A H0 H locs) (hA : ∀ q, H0.size ≤ q → A q) {cA : ClassId} (hcA : s.vm.findClass ("[" ++ (FieldType.object C).toString) = some cA)
    {n : Int32} {N' : Nat} (hn : ¬ n < 0) (hN : n.toNatClampNeg = N') (hbytes : N' * 4 ≤ 536870912) (hcells : cells + 1 ≤ R.cells) (hslots : slots + N' ≤ R.slots) (hdg : decode cc pc = .ok (.anewarray index, 3)) (i : Nat) (P' : Nat → Prop) (hP' : ∀ j, P' j → j ≠ i → P j) (hi : ad i = H.size) (hinj : ∀ j k, P' j → P' k → ad j = ad k → j = k)
    (kk : ∀ (H1 : Heap), H1.size = H.size + 1 → nw D cl P' ad (va_up ct i (.inl (cA, N', .inr (.inr (.inr (.inr (fun _ => none))))))) H1 → nd A P' ad → va_S A H0 H1 locs → W p l e R s m args below meth c H1 locs (cells + 1) (slots + N') Q (F0 m (pc + 3) ls (.ref (ad i) :: rest))) : W p l e R s m args below meth c H locs cells slots Q (F0 m pc ls (.int n :: rest)) := by
  subst hN
  refine W.anew hexec hb hown hclink (va_AO.use hover) rfl hdg rfl hn hbytes hcells hslots fun cA' kA comp f1 f2 f3 f4 => ?_
  obtain rfl : cA' = cA := Option.some.inj (f1.symm.trans hcA)
  generalize hH1 : H.push ({ cls := cA', slots := Array.replicate n.toNatClampNeg .null, vm := .none } : Cell) = H1
  have z1 : H1.size = H.size + 1 := by rw [← hH1, Array.size_push]
  have e1 : H1[H.size]? = some (arrV cA' n.toNatClampNeg (fun _ => .null)) := by rw [← hH1, Array.getElem?_push_size, ← arrV_new]
  have o1 : ∀ q : Nat, q < H.size → H1[q]? = H[q]? := fun q hq => by rw [← hH1, Array.getElem?_push, if_neg (Nat.ne_of_lt hq)]
  have kk := kk H1 z1 (nf_new hP (by
    show H1[ad i]? = some (vp_cell _ _)
    rw [vp_cell_q, hi]
    exact e1) o1 hP') (nf_nd hD hS hA hi hP' hinj) ⟨Nat.le_trans hS.1 (by omega), fun x h1 h2 => (o1 x (Nat.lt_of_lt_of_le h1 hS.1)).trans (hS.2.1 x h1 h2), hS.2.2⟩
  rw [hi] at kk
  exact kk
theorem nf_join {P0 P1 P2 : Nat → Prop} {ct1 ct2 : Nat → va_E} {H1 : Heap} (h : nw D cl P ad ct H) (hinj : ∀ j k, P2 j → P2 k → ad j = ad k → j = k) (g : Nat → Nat) (hg : ∀ i, P1 i → P2 (g i)) (hP0 : ∀ i, P0 i → P1 i) (hk : ∀ q : Nat, q < H.size → ¬ na P0 (fun i => ad (g i)) H.size q → H1[q]? = H[q]?)
    (h1 : nw D cl P1 (fun i => ad (g i)) ct1 H1) (e1 : ∀ i, P1 i → ct2 (g i) = ct1 i) (e2 : ∀ j, P2 j → (∀ i, P1 i → j ≠ g i) → P j ∧ ct2 j = ct j) : nw D cl P2 ad ct2 H1 := by
  intro j hj
  by_cases hx : ∃ i, P1 i ∧ j = g i
  · obtain ⟨i, hi, rfl⟩ := hx
    rw [e1 i hi]
    exact h1 i hi
  · have hn : ∀ i, P1 i → j ≠ g i := fun i hi q => hx ⟨i, hi, q⟩
    obtain ⟨hPj, ej⟩ := e2 j hj hn
    rw [ej]
    refine (h j hPj).kept (hk _ (h j hPj).lt (fun q => ?_))
    rcases q with ⟨i, hi, q⟩ | q
    · exact hn i (hP0 i hi) (hinj j (g i) hj (hg i (hP0 i hi)) q)
    · exact absurd (h j hPj).lt (Nat.not_lt.mpr q)
def preC (D : va_G) (cy : Nat → ClassId) (P : Nat → Prop) (ad : Nat → Nat) (ct : Nat → va_E) : State → Prop := fun U => pre0 D cy P ad ct U ∧ va_AO R_Bk U
/-- a constructor: of P it makes P1, k new cells from sz on -/
abbrev mtC (l : Launch) (y : MethodName) (cc : ByteArray) (maxL : Nat) (rm : Room) (D : va_G) (cy : Nat → ClassId) (av : List Value) (P : Nat → Prop) (ad : Nat → Nat) (ct : Nat → va_E) (P1 : Nat → Prop) (ct1 : Nat → va_E) (sz k : Nat) : Prop :=
  Met l y (Cond.code y cc maxL none :: TG) rm (va_Pc av (fun U => U.heap.size = sz ∧ preC D cy P ad ct U)) (va_Qv (fun _ : Unit => True) (fun _ t => nw D vcl P1 ad ct1 t.heap ∧ t.heap.size = sz + k) (na P ad sz)) rm.cells rm.slots (na P ad sz)
variable {own C : String} {index maxL n : Nat} {y : MethodName} {bytes : ByteArray} {rm : Room} {b : Addr} {As : List Value} {cy : Nat → ClassId} {P' P1 : Nat → Prop} {ad' : Nat → Nat} {ct' ct1 : Nat → va_E}
theorem call_C {k : Nat} (F : CallFix p m c cc nL s args TG own) (hK : KN D cy s) (hAO : va_AO R_Bk s) (hM : mtC l y bytes maxL rm D cy (.ref b :: As) P' ad' ct' P1 ct1 H.size k)
    (h1 : Cond.methodLink own index y ∈ TG) (hy : y.name = "<init>") (h2 : Cond.instanceMethod y ∈ TG) (h4 : Cond.initialized y.cls ∈ TG) (h5 : Cond.code y bytes maxL none ∈ TG) (hd : y.cls ≠ "java/lang/invoke/MethodHandle" ∧ y.cls ≠ "java/lang/invoke/VarHandle" ∧ (parseMethodDescriptor y.desc).map (fun d => d.parameters.length) = some As.length) (hR : rm.frames + 1 ≤ R.frames ∧ 8 + (maxL + 11) + rm.locals ≤ R.locals)
    (hP' : nw D vcl P' ad' ct' H) (hI : ∀ i j, P' i → P' j → ad' i = ad' j → i = j)
    (hsize : ls.size = nL) (hst : st0 = As.reverse ++ .ref b :: rest) (hW : (rest.map fun v => v.category).sum ≤ 8) (hdg : decode cc pc = .ok (.invokespecial index, 3)) (hf : cells + rm.cells ≤ R.cells ∧ slots + rm.slots ≤ R.slots) (hS : va_S A H0 H locs) (hA : ∀ q, na P' ad' H.size q → A q)
    (kk : ∀ (H1 : Heap) (locs1 : List Loc), nw D vcl P1 ad' ct1 H1 → H1.size = H.size + k → (∀ q : Nat, q < H.size → ¬ na P' ad' H.size q → H1[q]? = H[q]?) → va_S A H0 H1 locs1 → W p l e R s m args below meth c H1 locs1 (cells + rm.cells) (slots + rm.slots) Q (F0 m (pc + 3) ls rest)) :
    W p l e R s m args below meth c H locs cells slots Q (F0 m pc ls st0) := by
  refine va_callv (va_runI (As := As) (rest := rest) (b := b) F hM ⟨cw_b As.length F.2.2.2.2 h1 h4 h5 hd hR, hy, F.2.2.2.2 _ h2⟩ ⟨fun a U g mk h => ⟨h.1, h.2.1, ⟨h.2.2.1.1, KN.same (u := U) rfl h.2.2.1.2.1, h.2.2.1.2.2⟩, va_AO.moved (u := U) (Vm.Alike.refl U.vm) h.2.2.2⟩, fun U hU hW => ⟨rfl, by rw [hU], ⟨by rw [hU]; exact hP', KN.warm hW hK, hI⟩, va_AO.moved hW.alike hAO⟩⟩ rfl rfl hsize hst (lv_room hW) hdg hf) hS (fun q _ h => hA q h) hA (fun u t H1 locs1 ht hvm hw hB hz hk hS1 => ?_)
  have hB : nw D vcl P1 ad' ct1 t.heap ∧ t.heap.size = H.size + k := hB
  rw [ht] at hB
  exact kk H1 locs1 hB.1 hB.2 hk hS1
theorem end_C {P0 : Nat → Prop} {sz k : Nat} (F : CallFix p m c cc nL s args TG own) (hr : meth.sig.returnType = none) (hlk : meth.locks = false) (hP : nw D vcl P ad ct1 H) (hz : H.size = sz + k) (hS : va_S (na P0 ad sz) s.heap H locs) (hdg : decode cc pc = .ok (.return_, 1)) : W p l e R s m args below meth c H locs cells slots (MQ below (va_Qv (fun _ : Unit => True) (fun _ t => nw D vcl P ad ct1 t.heap ∧ t.heap.size = sz + k) (na P0 ad sz)) args s cells slots (na P0 ad sz)) (F0 m pc ls []) :=
  W.vret F.1 F.2.1 hr (fun t ht hW => ⟨⟨(), rfl, trivial, by show nw D vcl P ad ct1 t.heap ∧ t.heap.size = sz + k; rw [ht]; exact ⟨hP, hz⟩⟩, hS.F ht⟩) hS.2.2 hdg hlk
end NF
set_option maxRecDepth 100000 in
set_option maxHeartbeats 4000000 in
theorem c_By_init1060 (l : Launch) (D : va_G) (cy : Nat → ClassId) (ad : Nat → Nat) (sz : Nat) (h1 : ad 1 = sz) (hinj : ∀ i j, lt2 i → lt2 j → ad i = ad j → i = j) : mtC l y_By_init b_By_init 2 { frames := 1, cells := 1, slots := 1060, locals := 12 } D cy [.ref (ad 0), .int (nI 1060)] lt1 ad (fun i => if i = 0 then .inr (1, [.null, .int (nI 0)]) else .inl (cy 0, 1060, .inl (fun _ => sb_b 0))) lt2 (byC cy ad 1060 (fun _ => 0) 0) sz 1 := by
  refine nm_ofW (cc := b_By_init) (maxL := 2) (ret := none) (own := R_By) (by decide) (Nat.le_of_ble_eq_true rfl) rfl ?_
  intro p e s m below meth c ls F hr hlk hnm hv hl
  obtain ⟨hx, hb, hml, hown, hts⟩ := id F
  obtain ⟨rfl, ⟨hP, hK, hI⟩, hAO⟩ := hv
  have hD : nd (na lt1 ad s.heap.size) (lt1) ad := nd_self hI
  have hA : ∀ q, s.heap.size ≤ q → na lt1 ad s.heap.size q := fun q h => Or.inr h
  have hS : va_S (na lt1 ad s.heap.size) s.heap s.heap [] := va_S.rf
  have hH : s.heap.size = s.heap.size + 0 := rfl
  have hl : lv_has ls 2 [(0, .ref (ad 0)), (1, .int (nI 1060))] := hl
  refine lv_aload_n hx hb d_By_init_0 rfl (lv_at hl 0 rfl) ?_
  refine W.objInit hx hb hown (hts _ km_By_3) (hts _ k_oi) (hts _ k_oc) rfl (hl.1.trans hml.symm) rfl d_By_init_1 (Nat.le_of_ble_eq_true rfl) (Nat.le_of_ble_eq_true rfl) ?_
  refine (show W _ _ _ _ _ _ _ _ _ _ _ _ _ _ _ (F0 m 4 ls []) from ?_)
  refine lv_aload_n hx hb d_By_init_4 rfl (lv_at hl 0 rfl) ?_
  refine lv_iload_n hx hb d_By_init_5 rfl (lv_at hl 1 rfl) ?_
  refine nf_newr (atype := .byte) hx hb (hts _ ka_byte) (ty := .byte) rfl hP hD hS hA (hK.k.2 0 _ rfl).2 (N' := 1060) (a0 := (1060, .inl (fun _ => sb_b 0))) (fun _ => rfl) (by decide) (by decide) (by decide) (Nat.le_of_ble_eq_true rfl) (Nat.le_of_ble_eq_true rfl) d_By_init_6 1 (lt2) (fun j h hne => by have h : j < 2 := h; show j < 1; omega) (h1) (hinj) (fun H1 z1 hP hD hS => ?_)
  have hH : H1.size = s.heap.size + 1 := by omega
  have hP : nw D vcl (lt2) ad (fun i => if i = 0 then .inr (1, [.null, .int (nI 0)]) else .inl (cy 0, 1060, .inl (fun _ => sb_b 0))) H1 := nw_congr hP (fun i hi => by rcases (show i = 0 ∨ i = 1 by have hi : i < 2 := hi; omega) with rfl | rfl <;> simp [va_up])
  generalize H1 = H at hP hS hH ⊢
  refine nw_putF (D := D) (ci := 1) (C := R_By) (T := T_By) (N := 2) hx hb hts in_By ty_By tk_By nm_By hown hK.k hP hD hS (i := 0) (by decide) rfl rfl 0 (by decide) (hts _ kf_By_9) rfl hnm rfl rfl rfl (Nat.le_of_ble_eq_true rfl) d_By_init_8 (fun H locs hP hS hz hq => ?_)
  have hP : nw D vcl lt2 ad (fun i => if i = 0 then .inr (1, [.ref (ad 1), .int (nI 0)]) else .inl (cy 0, 1060, .inl (fun _ => sb_b 0))) H := nw_congr hP (fun i hi => by rcases (show i = 0 ∨ i = 1 by have hi : i < 2 := hi; omega) with rfl | rfl <;> simp [va_up])
  have hH : H.size = s.heap.size + 1 := by omega
  refine lv_aload_n hx hb d_By_init_11 rfl (lv_at hl 0 rfl) ?_
  refine lv_iconst (v := nI 0) hx hb d_By_init_12 (by decide) ?_
  refine nw_put (D := D) (ci := 1) (C := R_By) (T := T_By) (N := 2) hx hb hts in_By ty_By tk_By nm_By hown hK.k hP hD hS (i := 0) (by decide) rfl rfl 1 (by decide) (hts _ kf_By_15) rfl rfl rfl (Nat.le_of_ble_eq_true rfl) d_By_init_13 (fun H locs hP hS hz hq => ?_)
  have hP : nw D vcl lt2 ad (byC cy ad 1060 (fun _ => 0) 0) H := nw_congr hP (fun i hi => by rcases (show i = 0 ∨ i = 1 by have hi : i < 2 := hi; omega) with rfl | rfl <;> simp [va_up, byC])
  have hH : H.size = s.heap.size + 1 := by omega
  exact end_C F hr hlk hP hH hS d_By_init_16
set_option maxRecDepth 100000 in
set_option maxHeartbeats 4000000 in
theorem c_By_init1054 (l : Launch) (D : va_G) (cy : Nat → ClassId) (ad : Nat → Nat) (sz : Nat) (h1 : ad 1 = sz) (hinj : ∀ i j, lt2 i → lt2 j → ad i = ad j → i = j) : mtC l y_By_init b_By_init 2 { frames := 1, cells := 1, slots := 1054, locals := 12 } D cy [.ref (ad 0), .int (nI 1054)] lt1 ad (fun i => if i = 0 then .inr (1, [.null, .int (nI 0)]) else .inl (cy 0, 1054, .inl (fun _ => sb_b 0))) lt2 (byC cy ad 1054 (fun _ => 0) 0) sz 1 := by
  refine nm_ofW (cc := b_By_init) (maxL := 2) (ret := none) (own := R_By) (by decide) (Nat.le_of_ble_eq_true rfl) rfl ?_
  intro p e s m below meth c ls F hr hlk hnm hv hl
  obtain ⟨hx, hb, hml, hown, hts⟩ := id F
  obtain ⟨rfl, ⟨hP, hK, hI⟩, hAO⟩ := hv
  have hD : nd (na lt1 ad s.heap.size) (lt1) ad := nd_self hI
  have hA : ∀ q, s.heap.size ≤ q → na lt1 ad s.heap.size q := fun q h => Or.inr h
  have hS : va_S (na lt1 ad s.heap.size) s.heap s.heap [] := va_S.rf
  have hH : s.heap.size = s.heap.size + 0 := rfl
  have hl : lv_has ls 2 [(0, .ref (ad 0)), (1, .int (nI 1054))] := hl
  refine lv_aload_n hx hb d_By_init_0 rfl (lv_at hl 0 rfl) ?_
  refine W.objInit hx hb hown (hts _ km_By_3) (hts _ k_oi) (hts _ k_oc) rfl (hl.1.trans hml.symm) rfl d_By_init_1 (Nat.le_of_ble_eq_true rfl) (Nat.le_of_ble_eq_true rfl) ?_
  refine (show W _ _ _ _ _ _ _ _ _ _ _ _ _ _ _ (F0 m 4 ls []) from ?_)
  refine lv_aload_n hx hb d_By_init_4 rfl (lv_at hl 0 rfl) ?_
  refine lv_iload_n hx hb d_By_init_5 rfl (lv_at hl 1 rfl) ?_
  refine nf_newr (atype := .byte) hx hb (hts _ ka_byte) (ty := .byte) rfl hP hD hS hA (hK.k.2 0 _ rfl).2 (N' := 1054) (a0 := (1054, .inl (fun _ => sb_b 0))) (fun _ => rfl) (by decide) (by decide) (by decide) (Nat.le_of_ble_eq_true rfl) (Nat.le_of_ble_eq_true rfl) d_By_init_6 1 (lt2) (fun j h hne => by have h : j < 2 := h; show j < 1; omega) (h1) (hinj) (fun H1 z1 hP hD hS => ?_)
  have hH : H1.size = s.heap.size + 1 := by omega
  have hP : nw D vcl (lt2) ad (fun i => if i = 0 then .inr (1, [.null, .int (nI 0)]) else .inl (cy 0, 1054, .inl (fun _ => sb_b 0))) H1 := nw_congr hP (fun i hi => by rcases (show i = 0 ∨ i = 1 by have hi : i < 2 := hi; omega) with rfl | rfl <;> simp [va_up])
  generalize H1 = H at hP hS hH ⊢
  refine nw_putF (D := D) (ci := 1) (C := R_By) (T := T_By) (N := 2) hx hb hts in_By ty_By tk_By nm_By hown hK.k hP hD hS (i := 0) (by decide) rfl rfl 0 (by decide) (hts _ kf_By_9) rfl hnm rfl rfl rfl (Nat.le_of_ble_eq_true rfl) d_By_init_8 (fun H locs hP hS hz hq => ?_)
  have hP : nw D vcl lt2 ad (fun i => if i = 0 then .inr (1, [.ref (ad 1), .int (nI 0)]) else .inl (cy 0, 1054, .inl (fun _ => sb_b 0))) H := nw_congr hP (fun i hi => by rcases (show i = 0 ∨ i = 1 by have hi : i < 2 := hi; omega) with rfl | rfl <;> simp [va_up])
  have hH : H.size = s.heap.size + 1 := by omega
  refine lv_aload_n hx hb d_By_init_11 rfl (lv_at hl 0 rfl) ?_
  refine lv_iconst (v := nI 0) hx hb d_By_init_12 (by decide) ?_
  refine nw_put (D := D) (ci := 1) (C := R_By) (T := T_By) (N := 2) hx hb hts in_By ty_By tk_By nm_By hown hK.k hP hD hS (i := 0) (by decide) rfl rfl 1 (by decide) (hts _ kf_By_15) rfl rfl rfl (Nat.le_of_ble_eq_true rfl) d_By_init_13 (fun H locs hP hS hz hq => ?_)
  have hP : nw D vcl lt2 ad (byC cy ad 1054 (fun _ => 0) 0) H := nw_congr hP (fun i hi => by rcases (show i = 0 ∨ i = 1 by have hi : i < 2 := hi; omega) with rfl | rfl <;> simp [va_up, byC])
  have hH : H.size = s.heap.size + 1 := by omega
  exact end_C F hr hlk hP hH hS d_By_init_16
set_option maxRecDepth 100000 in
set_option maxHeartbeats 4000000 in
theorem c_Cu_init (l : Launch) (D : va_G) (cy : Nat → ClassId) (ad : Nat → Nat) (sz : Nat) : mtC l y_Cu_init b_Cu_init 1 { frames := 1, cells := 0, slots := 0, locals := 12 } D cy [.ref (ad 0)] lt1 ad (cuC false 0 0) lt1 (cuC false 0 0) sz 0 := by
  refine nm_ofW (cc := b_Cu_init) (maxL := 1) (ret := none) (own := R_Cu) (by decide) (Nat.le_of_ble_eq_true rfl) rfl ?_
  intro p e s m below meth c ls F hr hlk hnm hv hl
  obtain ⟨hx, hb, hml, hown, hts⟩ := id F
  obtain ⟨rfl, ⟨hP, hK, hI⟩, hAO⟩ := hv
  have hD : nd (na lt1 ad s.heap.size) (lt1) ad := nd_self hI
  have hA : ∀ q, s.heap.size ≤ q → na lt1 ad s.heap.size q := fun q h => Or.inr h
  have hS : va_S (na lt1 ad s.heap.size) s.heap s.heap [] := va_S.rf
  have hH : s.heap.size = s.heap.size + 0 := rfl
  have hl : lv_has ls 1 [(0, .ref (ad 0))] := hl
  refine lv_aload_n hx hb d_Cu_init_0 rfl (lv_at hl 0 rfl) ?_
  refine W.objInit hx hb hown (hts _ km_Cu_1) (hts _ k_oi) (hts _ k_oc) rfl (hl.1.trans hml.symm) rfl d_Cu_init_1 (Nat.le_of_ble_eq_true rfl) (Nat.le_of_ble_eq_true rfl) ?_
  refine (show W _ _ _ _ _ _ _ _ _ _ _ _ _ _ _ (F0 m 4 ls []) from ?_)
  refine lv_aload_n hx hb d_Cu_init_4 rfl (lv_at hl 0 rfl) ?_
  refine lv_iconst (v := bI false) hx hb d_Cu_init_5 (by decide) ?_
  refine nw_put (D := D) (ci := 2) (C := R_Cu) (T := T_Cu) (N := 3) hx hb hts in_Cu ty_Cu tk_Cu nm_Cu hown hK.k hP hD hS (i := 0) (by decide) rfl rfl 0 (by decide) (hts _ kf_Cu_7) rfl (bI_nar _) (bI_fit _) (Nat.le_of_ble_eq_true rfl) d_Cu_init_6 (fun H locs hP hS hz hq => ?_)
  have hP : nw D vcl lt1 ad (cuC false 0 0) H := nw_congr hP (cuC_w)
  have hH : H.size = s.heap.size + 0 := by omega
  refine lv_aload_n hx hb d_Cu_init_9 rfl (lv_at hl 0 rfl) ?_
  refine lv_iconst (v := nI 0) hx hb d_Cu_init_10 (by decide) ?_
  refine nw_put (D := D) (ci := 2) (C := R_Cu) (T := T_Cu) (N := 3) hx hb hts in_Cu ty_Cu tk_Cu nm_Cu hown hK.k hP hD hS (i := 0) (by decide) rfl rfl 1 (by decide) (hts _ kf_Cu_13) rfl rfl rfl (Nat.le_of_ble_eq_true rfl) d_Cu_init_11 (fun H locs hP hS hz hq => ?_)
  have hP : nw D vcl lt1 ad (cuC false 0 0) H := nw_congr hP (cuC_p)
  have hH : H.size = s.heap.size + 0 := by omega
  refine lv_aload_n hx hb d_Cu_init_14 rfl (lv_at hl 0 rfl) ?_
  refine lv_iconst (v := nI 0) hx hb d_Cu_init_15 (by decide) ?_
  refine nw_put (D := D) (ci := 2) (C := R_Cu) (T := T_Cu) (N := 3) hx hb hts in_Cu ty_Cu tk_Cu nm_Cu hown hK.k hP hD hS (i := 0) (by decide) rfl rfl 2 (by decide) (hts _ kf_Cu_17) rfl rfl rfl (Nat.le_of_ble_eq_true rfl) d_Cu_init_16 (fun H locs hP hS hz hq => ?_)
  have hP : nw D vcl lt1 ad (cuC false 0 0) H := nw_congr hP (cuC_b)
  have hH : H.size = s.heap.size + 0 := by omega
  exact end_C F hr hlk hP hH hS d_Cu_init_19
set_option maxRecDepth 100000 in
set_option maxHeartbeats 4000000 in
theorem c_Bk_init (l : Launch) (D : va_G) (cy : Nat → ClassId) (ad : Nat → Nat) (sz : Nat) (h1 : ad 1 = sz) (hinj : ∀ i j, lt2 i → lt2 j → ad i = ad j → i = j) : mtC l y_Bk_init b_Bk_init 1 { frames := 1, cells := 1, slots := 0, locals := 12 } D cy [.ref (ad 0)] lt1 ad (fun i => if i = 0 then .inr (0, [.null, .int (nI 0), .int (nI 0), .int (nI 0), .int (nI 0)]) else .inl (cy 0, 0, .inl (fun _ => sb_b 0))) lt2 (fun i => if i = 0 then .inr (0, [.ref (ad 1), .int (nI 0), .int (nI 0), .int (nI 0), .int (nI 6)]) else .inl (cy 0, 0, .inl (fun _ => sb_b 0))) sz 1 := by
  refine nm_ofW (cc := b_Bk_init) (maxL := 1) (ret := none) (own := R_Bk) (by decide) (Nat.le_of_ble_eq_true rfl) rfl ?_
  intro p e s m below meth c ls F hr hlk hnm hv hl
  obtain ⟨hx, hb, hml, hown, hts⟩ := id F
  obtain ⟨rfl, ⟨hP, hK, hI⟩, hAO⟩ := hv
  have hD : nd (na lt1 ad s.heap.size) (lt1) ad := nd_self hI
  have hA : ∀ q, s.heap.size ≤ q → na lt1 ad s.heap.size q := fun q h => Or.inr h
  have hS : va_S (na lt1 ad s.heap.size) s.heap s.heap [] := va_S.rf
  have hH : s.heap.size = s.heap.size + 0 := rfl
  have hl : lv_has ls 1 [(0, .ref (ad 0))] := hl
  refine lv_aload_n hx hb d_Bk_init_0 rfl (lv_at hl 0 rfl) ?_
  refine W.objInit hx hb hown (hts _ km_Bk_3) (hts _ k_oi) (hts _ k_oc) rfl (hl.1.trans hml.symm) rfl d_Bk_init_1 (Nat.le_of_ble_eq_true rfl) (Nat.le_of_ble_eq_true rfl) ?_
  refine (show W _ _ _ _ _ _ _ _ _ _ _ _ _ _ _ (F0 m 4 ls []) from ?_)
  refine lv_aload_n hx hb d_Bk_init_4 rfl (lv_at hl 0 rfl) ?_
  refine lv_iconst (v := nI 0) hx hb d_Bk_init_5 (by decide) ?_
  refine nf_newr (atype := .byte) hx hb (hts _ ka_byte) (ty := .byte) rfl hP hD hS hA (hK.k.2 0 _ rfl).2 (N' := 0) (a0 := (0, .inl (fun _ => sb_b 0))) (fun _ => rfl) (by decide) (by decide) (by decide) (Nat.le_of_ble_eq_true rfl) (Nat.le_of_ble_eq_true rfl) d_Bk_init_6 1 (lt2) (fun j h hne => by have h : j < 2 := h; show j < 1; omega) (h1) (hinj) (fun H1 z1 hP hD hS => ?_)
  have hH : H1.size = s.heap.size + 1 := by omega
  have hP : nw D vcl (lt2) ad (fun i => if i = 0 then .inr (0, [.null, .int (nI 0), .int (nI 0), .int (nI 0), .int (nI 0)]) else .inl (cy 0, 0, .inl (fun _ => sb_b 0))) H1 := nw_congr hP (fun i hi => by rcases (show i = 0 ∨ i = 1 by have hi : i < 2 := hi; omega) with rfl | rfl <;> simp [va_up])
  generalize H1 = H at hP hS hH ⊢
  refine nw_put (D := D) (ci := 0) (C := R_Bk) (T := T_Bk) (N := 5) hx hb hts in_Bk ty_Bk tk_Bk nm_Bk hown hK.k hP hD hS (i := 0) (by decide) rfl rfl 0 (by decide) (hts _ kf_Bk_9) rfl rfl rfl (Nat.le_of_ble_eq_true rfl) d_Bk_init_8 (fun H locs hP hS hz hq => ?_)
  have hP : nw D vcl lt2 ad (fun i => if i = 0 then .inr (0, [.ref (ad 1), .int (nI 0), .int (nI 0), .int (nI 0), .int (nI 0)]) else .inl (cy 0, 0, .inl (fun _ => sb_b 0))) H := nw_congr hP (fun i hi => by rcases (show i = 0 ∨ i = 1 by have hi : i < 2 := hi; omega) with rfl | rfl <;> simp [va_up])
  have hH : H.size = s.heap.size + 1 := by omega
  refine lv_aload_n hx hb d_Bk_init_11 rfl (lv_at hl 0 rfl) ?_
  refine lv_iconst (v := nI 0) hx hb d_Bk_init_12 (by decide) ?_
  refine nw_put (D := D) (ci := 0) (C := R_Bk) (T := T_Bk) (N := 5) hx hb hts in_Bk ty_Bk tk_Bk nm_Bk hown hK.k hP hD hS (i := 0) (by decide) rfl rfl 1 (by decide) (hts _ kf_Bk_15) rfl rfl rfl (Nat.le_of_ble_eq_true rfl) d_Bk_init_13 (fun H locs hP hS hz hq => ?_)
  have hP : nw D vcl lt2 ad (fun i => if i = 0 then .inr (0, [.ref (ad 1), .int (nI 0), .int (nI 0), .int (nI 0), .int (nI 0)]) else .inl (cy 0, 0, .inl (fun _ => sb_b 0))) H := nw_congr hP (fun i hi => by rcases (show i = 0 ∨ i = 1 by have hi : i < 2 := hi; omega) with rfl | rfl <;> simp [va_up])
  have hH : H.size = s.heap.size + 1 := by omega
  refine lv_aload_n hx hb d_Bk_init_16 rfl (lv_at hl 0 rfl) ?_
  refine lv_iconst (v := nI 0) hx hb d_Bk_init_17 (by decide) ?_
  refine nw_put (D := D) (ci := 0) (C := R_Bk) (T := T_Bk) (N := 5) hx hb hts in_Bk ty_Bk tk_Bk nm_Bk hown hK.k hP hD hS (i := 0) (by decide) rfl rfl 2 (by decide) (hts _ kf_Bk_19) rfl rfl rfl (Nat.le_of_ble_eq_true rfl) d_Bk_init_18 (fun H locs hP hS hz hq => ?_)
  have hP : nw D vcl lt2 ad (fun i => if i = 0 then .inr (0, [.ref (ad 1), .int (nI 0), .int (nI 0), .int (nI 0), .int (nI 0)]) else .inl (cy 0, 0, .inl (fun _ => sb_b 0))) H := nw_congr hP (fun i hi => by rcases (show i = 0 ∨ i = 1 by have hi : i < 2 := hi; omega) with rfl | rfl <;> simp [va_up])
  have hH : H.size = s.heap.size + 1 := by omega
  refine lv_aload_n hx hb d_Bk_init_21 rfl (lv_at hl 0 rfl) ?_
  refine lv_iconst (v := nI 0) hx hb d_Bk_init_22 (by decide) ?_
  refine nw_put (D := D) (ci := 0) (C := R_Bk) (T := T_Bk) (N := 5) hx hb hts in_Bk ty_Bk tk_Bk nm_Bk hown hK.k hP hD hS (i := 0) (by decide) rfl rfl 3 (by decide) (hts _ kf_Bk_22) rfl rfl rfl (Nat.le_of_ble_eq_true rfl) d_Bk_init_23 (fun H locs hP hS hz hq => ?_)
  have hP : nw D vcl lt2 ad (fun i => if i = 0 then .inr (0, [.ref (ad 1), .int (nI 0), .int (nI 0), .int (nI 0), .int (nI 0)]) else .inl (cy 0, 0, .inl (fun _ => sb_b 0))) H := nw_congr hP (fun i hi => by rcases (show i = 0 ∨ i = 1 by have hi : i < 2 := hi; omega) with rfl | rfl <;> simp [va_up])
  have hH : H.size = s.heap.size + 1 := by omega
  refine lv_aload_n hx hb d_Bk_init_26 rfl (lv_at hl 0 rfl) ?_
  refine lv_bipush (v := nI 6) hx hb d_Bk_init_27 (by decide) ?_
  refine nw_put (D := D) (ci := 0) (C := R_Bk) (T := T_Bk) (N := 5) hx hb hts in_Bk ty_Bk tk_Bk nm_Bk hown hK.k hP hD hS (i := 0) (by decide) rfl rfl 4 (by decide) (hts _ kf_Bk_25) rfl rfl rfl (Nat.le_of_ble_eq_true rfl) d_Bk_init_29 (fun H locs hP hS hz hq => ?_)
  have hP : nw D vcl lt2 ad (fun i => if i = 0 then .inr (0, [.ref (ad 1), .int (nI 0), .int (nI 0), .int (nI 0), .int (nI 6)]) else .inl (cy 0, 0, .inl (fun _ => sb_b 0))) H := nw_congr hP (fun i hi => by rcases (show i = 0 ∨ i = 1 by have hi : i < 2 := hi; omega) with rfl | rfl <;> simp [va_up])
  have hH : H.size = s.heap.size + 1 := by omega
  exact end_C F hr hlk hP hH hS d_Bk_init_32

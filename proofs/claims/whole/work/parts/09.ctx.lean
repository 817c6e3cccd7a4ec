/-! WHAT STAYS TRUE OF THE TABLES, contracts over worlds by names, calls -/
abbrev nestW : List Cond := [.fieldLinkNest R_Tl 38 (T_By 1).1 (T_By 1).2.1 (T_By 1).2.2.1 R_Tl, .fieldLinkNest R_Bk 34 (T_By 1).1 (T_By 1).2.1 (T_By 1).2.2.1 R_Tl, .fieldLinkNest R_Lg 87 (T_By 1).1 (T_By 1).2.1 (T_By 1).2.2.1 R_Tl,
  .fieldLinkNest R_Lg 84 (T_Bk 1).1 (T_Bk 1).2.1 (T_Bk 1).2.2.1 R_Tl, .fieldLinkNest R_Lg 60 (T_Bk 2).1 (T_Bk 2).2.1 (T_Bk 2).2.2.1 R_Tl, .fieldLinkNest R_Lg 57 (T_Bk 3).1 (T_Bk 3).2.1 (T_Bk 3).2.2.1 R_Tl, .fieldLinkNest R_Lg 103 (T_Bk 4).1 (T_Bk 4).2.1 (T_Bk 4).2.2.1 R_Tl,
  .fieldLinkNest R_Tl 93 (T_Cu 0).1 (T_Cu 0).2.1 (T_Cu 0).2.2.1 R_Tl, .fieldLinkNest R_Tl 56 (T_Lg 2).1 (T_Lg 2).2.1 (T_Lg 2).2.2.1 R_Tl, .fieldLinkNest R_Tl 89 (T_Lg 5).1 (T_Lg 5).2.1 (T_Lg 5).2.2.1 R_Tl]
abbrev tysW (cy : Nat → ClassId) : List (ClassId × FieldType) := [(cy 0, .byte), (cy 1, .int), (cy 2, .boolean), (cy 3, .long), (cy 4, .object R_Bk)]
def KN (D : va_G) (cy : Nat → ClassId) (U : State) : Prop := va_K D vcl (tysW cy) U ∧ ∀ k, k < 10 → ∀ w, nestW[k]? = some w → va_Nw w U
theorem KN.k {D : va_G} {cy : Nat → ClassId} {U : State} (h : KN D cy U) : va_K D vcl (tysW cy) U := h.1
theorem KN.nest {D : va_G} {cy : Nat → ClassId} {U : State} (h : KN D cy U) (k : Nat) (hk : k < 10) {w : Cond} (hw : nestW[k]? = some w) : va_Nw w U := h.2 k hk w hw
theorem KN.warm {D : va_G} {cy : Nat → ClassId} {s U : State} (hW : s.WarmedH U.vm) (h : KN D cy s) : KN D cy U := by
  refine ⟨va_K.moved hW.alike h.1, fun k hk w hw => ?_⟩
  have hz := h.2 k hk w hw
  have : k = 0 ∨ k = 1 ∨ k = 2 ∨ k = 3 ∨ k = 4 ∨ k = 5 ∨ k = 6 ∨ k = 7 ∨ k = 8 ∨ k = 9 := by omega
  rcases this with rfl | rfl | rfl | rfl | rfl | rfl | rfl | rfl | rfl | rfl <;> cases hw <;> exact va_Nw.warmF hW hz
theorem KN.same {D : va_G} {cy : Nat → ClassId} {u U : State} (hv : u.vm = U.vm) (h : KN D cy u) : KN D cy U := by
  refine ⟨va_K.moved (hv ▸ Vm.Alike.refl u.vm) h.1, fun k hk w hw => ?_⟩
  have hz := h.2 k hk w hw
  have : k = 0 ∨ k = 1 ∨ k = 2 ∨ k = 3 ∨ k = 4 ∨ k = 5 ∨ k = 6 ∨ k = 7 ∨ k = 8 ∨ k = 9 := by omega
  rcases this with rfl | rfl | rfl | rfl | rfl | rfl | rfl | rfl | rfl | rfl <;> cases hw <;> exact va_Nw.same rfl hv hz
/-- a world of the names P, at the addresses ad, with ct in it -/
def pre0 (D : va_G) (cy : Nat → ClassId) (P : Nat → Prop) (ad : Nat → Nat) (ct : Nat → va_E) : State → Prop := fun U => nw D vcl P ad ct U.heap ∧ KN D cy U ∧ ∀ i j, P i → P j → ad i = ad j → i = j
theorem pre0_blind {D : va_G} {cy : Nat → ClassId} {P : Nat → Prop} {ad : Nat → Nat} {ct : Nat → va_E} {av : List Value} {sz : Nat} : FrameBlind (va_Pc av (fun U => U.heap.size = sz ∧ pre0 D cy P ad ct U)) := fun a U g mk h => ⟨h.1, h.2.1, h.2.2.1, KN.same (u := U) rfl h.2.2.2.1, h.2.2.2.2⟩
theorem pre0_at {D : va_G} {cy : Nat → ClassId} {P : Nat → Prop} {ad : Nat → Nat} {ct : Nat → va_E} {av : List Value} {s : State} {H : Heap} (hK : KN D cy s) (hP : nw D vcl P ad ct H) (hI : ∀ i j, P i → P j → ad i = ad j → i = j) : ∀ U : State, U.heap = H → s.WarmedH U.vm → va_Pc av (fun U => U.heap.size = H.size ∧ pre0 D cy P ad ct U) av.toArray U := fun U hU hW => ⟨rfl, by rw [hU], by rw [hU]; exact hP, KN.warm hW hK, hI⟩
/-- a method's body over a world: from its entry -/
theorem nm_ofW {l : Launch} {y : MethodName} {rm : Room} {B : State → Prop} {Qc : Array Value → State → Outcome → State → Prop} {mc ms : Nat} {free : Addr → Prop} {cc : ByteArray} {maxL : Nat} {ret : Option FieldType} {av : List Value} {own : String}
    (hy : plainName y.cls = true) (hlen : (lg_sl av).length ≤ maxL) (ho : y.cls = own)
    (body : ∀ (p : Program) (e : Env) (s : State) (m : MethodId) (below : List Frame) (meth : Method) (c : Code) (ls : Array Slot), CallFix p m c cc maxL s av.toArray TG own → meth.sig.returnType = ret → meth.locks = false → meth.name = y.name → B s → lv_has ls maxL (lv_args 0 av) →
      W p l e rm s m av.toArray below meth c s.heap [] 0 0 (MQ below Qc av.toArray s mc ms free) (F0 m 0 ls [])) : Met l y (Cond.code y cc maxL ret :: TG) rm (va_Pc av B) Qc mc ms free := by
  refine Met.ofW (cc := cc) (maxL := maxL) (ret := ret) hy rfl ?_
  intro p e s m args below meth c s₁ B0 hml hv
  obtain ⟨rfl, hv⟩ := hv
  have hts := atoms_spec (ws := Cond.code y cc maxL ret :: TG) B0.pre
  have hl := lv_entry av (n := maxL) hlen
  rw [lg_entry_eq]
  generalize (lg_sl av ++ List.replicate (maxL - (lg_sl av).length) Slot.unset).toArray = ls at hl ⊢
  exact body p e s m below meth c ls ⟨B0.exec, B0.bytes, hml, by rw [← ho]; exact findClass_of_methodNamed B0.named, fun w h => hts w (List.mem_cons_of_mem _ h)⟩ B0.returns B0.notSynchronized (name_of_methodNamed B0.named B0.method).1 hv hl
section CXS
variable {p : Program} {l : Launch} {e : Env} {R : Room} {s : State} {m : MethodId} {args : Array Value} {below : List Frame} {meth : Method} {c : Code} {H : Heap} {locs : List Loc} {cells slots : Nat} {Q : State → Prop}
variable {cc : ByteArray} {pc nL : Nat} {ls : Array Slot} {rest st0 : List Value} {D : va_G} {cy : Nat → ClassId} {A : Nat → Prop} {H0 : Heap} {own C : String} {index maxL n : Nat} {y : MethodName} {bytes : ByteArray} {ret : Option FieldType} {rm : Room} {b : Addr} {As : List Value}
theorem tg_cons {w : Cond} (h : w ∈ TG) : GoodIn TG (w :: TG) := fun v hv => (List.mem_cons.mp hv).elim (fun e => by rw [e]; exact tg_good (fun _ h => h) w h) (tg_good (fun _ h => h) v)
theorem cw_b (n : Nat) (hts : ∀ w ∈ TG, w.before args s = true) (h1 : Cond.methodLink own index y ∈ TG) (h4 : Cond.initialized y.cls ∈ TG) (h5 : Cond.code y bytes maxL ret ∈ TG) (hd : y.cls ≠ "java/lang/invoke/MethodHandle" ∧ y.cls ≠ "java/lang/invoke/VarHandle" ∧ (parseMethodDescriptor y.desc).map (fun d => d.parameters.length) = some n) (hR : rm.frames + 1 ≤ R.frames ∧ 8 + (maxL + 11) + rm.locals ≤ R.locals) :
    CallB R s args own index y bytes maxL ret (Cond.code y bytes maxL ret :: TG) rm rm.cells rm.slots n :=
  callB_of n hts (tg_cons h5) rfl rfl rfl (hts _ h4) (hts _ h1) hd hR
/-- a callee that reads alone, with an int for an answer -/
abbrev mtR (l : Launch) (y : MethodName) (cc : ByteArray) (maxL : Nat) (ret : Option FieldType) (rm : Room) (D : va_G) (cy : Nat → ClassId) (av : List Value) (P : Nat → Prop) (ad : Nat → Nat) (ct : Nat → va_E) (r : Int32) : Prop :=
  ∀ sz : Nat, Met l y (Cond.code y cc maxL ret :: TG) rm (va_Pc av (fun U => U.heap.size = sz ∧ pre0 D cy P ad ct U)) (va_Qi (fun r' (_ : Unit) => r' = r) (fun _ _ => True) (fun _ => False)) rm.cells rm.slots (fun _ => False)
/-- a callee that reads alone, with a reference for an answer -/
abbrev mtA (l : Launch) (y : MethodName) (cc : ByteArray) (maxL : Nat) (ret : Option FieldType) (rm : Room) (D : va_G) (cy : Nat → ClassId) (av : List Value) (P : Nat → Prop) (ad : Nat → Nat) (ct : Nat → va_E) (r : Nat) : Prop :=
  ∀ sz : Nat, Met l y (Cond.code y cc maxL ret :: TG) rm (va_Pc av (fun U => U.heap.size = sz ∧ pre0 D cy P ad ct U)) (va_Qr (fun _ : Unit => True) (fun _ a _ => a = r) (fun _ => False)) rm.cells rm.slots (fun _ => False)
/-- a callee that writes its world's cells and makes none -/
abbrev mtV (l : Launch) (y : MethodName) (cc : ByteArray) (maxL : Nat) (rm : Room) (D : va_G) (cy : Nat → ClassId) (av : List Value) (P : Nat → Prop) (ad : Nat → Nat) (ct ct1 : Nat → va_E) : Prop :=
  ∀ sz : Nat, Met l y (Cond.code y cc maxL none :: TG) rm (va_Pc av (fun U => U.heap.size = sz ∧ pre0 D cy P ad ct U)) (va_Qv (fun _ : Unit => True) (fun _ t => nw D vcl P ad ct1 t.heap) (na P ad sz)) rm.cells rm.slots (na P ad sz)
/-- the same, with an int for an answer -/
abbrev mtI (l : Launch) (y : MethodName) (cc : ByteArray) (maxL : Nat) (ret : Option FieldType) (rm : Room) (D : va_G) (cy : Nat → ClassId) (av : List Value) (P : Nat → Prop) (ad : Nat → Nat) (ct ct1 : Nat → va_E) (r : Int32) : Prop :=
  ∀ sz : Nat, Met l y (Cond.code y cc maxL ret :: TG) rm (va_Pc av (fun U => U.heap.size = sz ∧ pre0 D cy P ad ct U)) (va_Qi (fun r' (_ : Unit) => r' = r) (fun _ t => nw D vcl P ad ct1 t.heap) (na P ad sz)) rm.cells rm.slots (na P ad sz)
variable {P' : Nat → Prop} {ad' : Nat → Nat} {ct' ct1 : Nat → va_E}
theorem nw_all {H1 : Heap} (h : ∀ q : Nat, q < H.size → ¬ False → H1[q]? = H[q]?) (P : Nat → Prop) (ad : Nat → Nat) (ct : Nat → va_E) (hP : nw D vcl P ad ct H) : nw D vcl P ad ct H1 := fun i hi => (hP i hi).kept (h _ (hP i hi).lt (fun f => f))
theorem call_R {r : Int32} (F : CallFix p m c cc nL s args TG own) (hK : KN D cy s) (hM : mtR l y bytes maxL ret rm D cy (.ref b :: As) P' ad' ct' r)
    (h1 : Cond.methodLink own index y ∈ TG) (h2 : Cond.instanceMethod y ∈ TG) (h3 : Cond.selects y.cls y y ∈ TG) (h4 : Cond.initialized y.cls ∈ TG) (h5 : Cond.code y bytes maxL ret ∈ TG) (hd : y.cls ≠ "java/lang/invoke/MethodHandle" ∧ y.cls ≠ "java/lang/invoke/VarHandle" ∧ (parseMethodDescriptor y.desc).map (fun d => d.parameters.length) = some As.length) (hR : rm.frames + 1 ≤ R.frames ∧ 8 + (maxL + 11) + rm.locals ≤ R.locals)
    (hb : ∃ cell : Cell, H[b]? = some cell ∧ cell.vm.isStatics = false ∧ s.vm.findClass y.cls = some cell.cls) (hP' : nw D vcl P' ad' ct' H) (hI : ∀ i j, P' i → P' j → ad' i = ad' j → i = j)
    (hsize : ls.size = nL) (hst : st0 = As.reverse ++ .ref b :: rest) (hW : (rest.map fun v => v.category).sum ≤ 8) (hdg : decode cc pc = .ok (.invokevirtual index, 3)) (hf : cells + rm.cells ≤ R.cells ∧ slots + rm.slots ≤ R.slots) (hS : va_S A H0 H locs)
    (kk : ∀ (H1 : Heap) (locs1 : List Loc), (∀ (P : Nat → Prop) (ad : Nat → Nat) (ct : Nat → va_E), nw D vcl P ad ct H → nw D vcl P ad ct H1) → va_S A H0 H1 locs1 → W p l e R s m args below meth c H1 locs1 (cells + rm.cells) (slots + rm.slots) Q (F0 m (pc + 3) ls (.int r :: rest))) :
    W p l e R s m args below meth c H locs cells slots Q (F0 m pc ls st0) := by
  refine va_calli (va_runV (As := As) (rest := rest) (b := b) F (hM H.size) ⟨cw_b As.length F.2.2.2.2 h1 h4 h5 hd hR, F.2.2.2.2 _ h2, F.2.2.2.2 _ h3⟩ ⟨pre0_blind, hb, pre0_at hK hP' hI⟩ rfl rfl hsize hst (lv_room hW) hdg hf) hS (fun _ _ h => h.elim) (fun _ h => h.elim) (fun r' u t H1 locs1 ht hvm hw hB hz hk hS1 => ?_)
  subst hw
  exact kk H1 locs1 (nw_all hk) hS1
theorem call_A {r : Nat} (F : CallFix p m c cc nL s args TG own) (hK : KN D cy s) (hM : mtA l y bytes maxL ret rm D cy (.ref b :: As) P' ad' ct' r)
    (h1 : Cond.methodLink own index y ∈ TG) (h2 : Cond.instanceMethod y ∈ TG) (h3 : Cond.selects y.cls y y ∈ TG) (h4 : Cond.initialized y.cls ∈ TG) (h5 : Cond.code y bytes maxL ret ∈ TG) (hd : y.cls ≠ "java/lang/invoke/MethodHandle" ∧ y.cls ≠ "java/lang/invoke/VarHandle" ∧ (parseMethodDescriptor y.desc).map (fun d => d.parameters.length) = some As.length) (hR : rm.frames + 1 ≤ R.frames ∧ 8 + (maxL + 11) + rm.locals ≤ R.locals)
    (hb : ∃ cell : Cell, H[b]? = some cell ∧ cell.vm.isStatics = false ∧ s.vm.findClass y.cls = some cell.cls) (hP' : nw D vcl P' ad' ct' H) (hI : ∀ i j, P' i → P' j → ad' i = ad' j → i = j)
    (hsize : ls.size = nL) (hst : st0 = As.reverse ++ .ref b :: rest) (hW : (rest.map fun v => v.category).sum ≤ 8) (hdg : decode cc pc = .ok (.invokevirtual index, 3)) (hf : cells + rm.cells ≤ R.cells ∧ slots + rm.slots ≤ R.slots) (hS : va_S A H0 H locs)
    (kk : ∀ (H1 : Heap) (locs1 : List Loc), (∀ (P : Nat → Prop) (ad : Nat → Nat) (ct : Nat → va_E), nw D vcl P ad ct H → nw D vcl P ad ct H1) → va_S A H0 H1 locs1 → W p l e R s m args below meth c H1 locs1 (cells + rm.cells) (slots + rm.slots) Q (F0 m (pc + 3) ls (.ref r :: rest))) :
    W p l e R s m args below meth c H locs cells slots Q (F0 m pc ls st0) := by
  refine va_callr (va_runV (As := As) (rest := rest) (b := b) F (hM H.size) ⟨cw_b As.length F.2.2.2.2 h1 h4 h5 hd hR, F.2.2.2.2 _ h2, F.2.2.2.2 _ h3⟩ ⟨pre0_blind, hb, pre0_at hK hP' hI⟩ rfl rfl hsize hst (lv_room hW) hdg hf) hS (fun _ _ h => h.elim) (fun _ h => h.elim) (fun u ra t H1 locs1 ht hvm hw hB hz hk hS1 => ?_)
  subst hB
  exact kk H1 locs1 (nw_all hk) hS1
theorem call_V (F : CallFix p m c cc nL s args TG own) (hK : KN D cy s) (hM : mtV l y bytes maxL rm D cy (.ref b :: As) P' ad' ct' ct1)
    (h1 : Cond.methodLink own index y ∈ TG) (h2 : Cond.instanceMethod y ∈ TG) (h3 : Cond.selects y.cls y y ∈ TG) (h4 : Cond.initialized y.cls ∈ TG) (h5 : Cond.code y bytes maxL none ∈ TG) (hd : y.cls ≠ "java/lang/invoke/MethodHandle" ∧ y.cls ≠ "java/lang/invoke/VarHandle" ∧ (parseMethodDescriptor y.desc).map (fun d => d.parameters.length) = some As.length) (hR : rm.frames + 1 ≤ R.frames ∧ 8 + (maxL + 11) + rm.locals ≤ R.locals)
    (hb : ∃ cell : Cell, H[b]? = some cell ∧ cell.vm.isStatics = false ∧ s.vm.findClass y.cls = some cell.cls) (hP' : nw D vcl P' ad' ct' H) (hI : ∀ i j, P' i → P' j → ad' i = ad' j → i = j)
    (hsize : ls.size = nL) (hst : st0 = As.reverse ++ .ref b :: rest) (hW : (rest.map fun v => v.category).sum ≤ 8) (hdg : decode cc pc = .ok (.invokevirtual index, 3)) (hf : cells + rm.cells ≤ R.cells ∧ slots + rm.slots ≤ R.slots) (hS : va_S A H0 H locs) (hA : ∀ q, na P' ad' H.size q → A q)
    (kk : ∀ (H1 : Heap) (locs1 : List Loc), nw D vcl P' ad' ct1 H1 → (∀ q : Nat, q < H.size → ¬ na P' ad' H.size q → H1[q]? = H[q]?) → va_S A H0 H1 locs1 → W p l e R s m args below meth c H1 locs1 (cells + rm.cells) (slots + rm.slots) Q (F0 m (pc + 3) ls rest)) :
    W p l e R s m args below meth c H locs cells slots Q (F0 m pc ls st0) := by
  refine va_callv (va_runV (As := As) (rest := rest) (b := b) F (hM H.size) ⟨cw_b As.length F.2.2.2.2 h1 h4 h5 hd hR, F.2.2.2.2 _ h2, F.2.2.2.2 _ h3⟩ ⟨pre0_blind, hb, pre0_at hK hP' hI⟩ rfl rfl hsize hst (lv_room hW) hdg hf) hS (fun q _ h => hA q h) hA (fun u t H1 locs1 ht hvm hw hB hz hk hS1 => ?_)
  have hB : nw D vcl P' ad' ct1 t.heap := hB
  rw [ht] at hB
  exact kk H1 locs1 hB hk hS1
theorem call_I {r : Int32} (F : CallFix p m c cc nL s args TG own) (hK : KN D cy s) (hM : mtI l y bytes maxL ret rm D cy (.ref b :: As) P' ad' ct' ct1 r)
    (h1 : Cond.methodLink own index y ∈ TG) (h2 : Cond.instanceMethod y ∈ TG) (h3 : Cond.selects y.cls y y ∈ TG) (h4 : Cond.initialized y.cls ∈ TG) (h5 : Cond.code y bytes maxL ret ∈ TG) (hd : y.cls ≠ "java/lang/invoke/MethodHandle" ∧ y.cls ≠ "java/lang/invoke/VarHandle" ∧ (parseMethodDescriptor y.desc).map (fun d => d.parameters.length) = some As.length) (hR : rm.frames + 1 ≤ R.frames ∧ 8 + (maxL + 11) + rm.locals ≤ R.locals)
    (hb : ∃ cell : Cell, H[b]? = some cell ∧ cell.vm.isStatics = false ∧ s.vm.findClass y.cls = some cell.cls) (hP' : nw D vcl P' ad' ct' H) (hI : ∀ i j, P' i → P' j → ad' i = ad' j → i = j)
    (hsize : ls.size = nL) (hst : st0 = As.reverse ++ .ref b :: rest) (hW : (rest.map fun v => v.category).sum ≤ 8) (hdg : decode cc pc = .ok (.invokevirtual index, 3)) (hf : cells + rm.cells ≤ R.cells ∧ slots + rm.slots ≤ R.slots) (hS : va_S A H0 H locs) (hA : ∀ q, na P' ad' H.size q → A q)
    (kk : ∀ (H1 : Heap) (locs1 : List Loc), nw D vcl P' ad' ct1 H1 → (∀ q : Nat, q < H.size → ¬ na P' ad' H.size q → H1[q]? = H[q]?) → va_S A H0 H1 locs1 → W p l e R s m args below meth c H1 locs1 (cells + rm.cells) (slots + rm.slots) Q (F0 m (pc + 3) ls (.int r :: rest))) :
    W p l e R s m args below meth c H locs cells slots Q (F0 m pc ls st0) := by
  refine va_calli (va_runV (As := As) (rest := rest) (b := b) F (hM H.size) ⟨cw_b As.length F.2.2.2.2 h1 h4 h5 hd hR, F.2.2.2.2 _ h2, F.2.2.2.2 _ h3⟩ ⟨pre0_blind, hb, pre0_at hK hP' hI⟩ rfl rfl hsize hst (lv_room hW) hdg hf) hS (fun q _ h => hA q h) hA (fun r' u t H1 locs1 ht hvm hw hB hz hk hS1 => ?_)
  subst hw
  have hB : nw D vcl P' ad' ct1 t.heap := hB
  rw [ht] at hB
  exact kk H1 locs1 hB hk hS1
/-- the ends -/
theorem end_R {r : Int32} {ty : FieldType} (F : CallFix p m c cc nL s args TG own) (hr : meth.sig.returnType = some ty) (hlk : meth.locks = false) (hn : narrow ty (.int r) = .int r) (hS : va_S (fun _ => False) s.heap H locs) (hdg : decode cc pc = .ok (.ireturn, 1)) : W p l e R s m args below meth c H locs cells slots (MQ below (va_Qi (fun r' (_ : Unit) => r' = r) (fun _ _ => True) (fun _ => False)) args s cells slots (fun _ => False)) (F0 m pc ls [.int r]) :=
  W.zret F.1 F.2.1 hr hn (fun t ht hW => ⟨⟨r, (), rfl, rfl, trivial⟩, hS.F ht⟩) hS.2.2 hdg hlk
theorem end_A {r : Nat} {n : String} (F : CallFix p m c cc nL s args TG own) (hr : meth.sig.returnType = some (.object n)) (hlk : meth.locks = false) (hS : va_S (fun _ => False) s.heap H locs) (hdg : decode cc pc = .ok (.areturn, 1)) : W p l e R s m args below meth c H locs cells slots (MQ below (va_Qr (fun _ : Unit => True) (fun _ a _ => a = r) (fun _ => False)) args s cells slots (fun _ => False)) (F0 m pc ls [.ref r]) :=
  W.aret F.1 F.2.1 hr (Or.inl ⟨n, rfl⟩) (Or.inr ⟨r, rfl⟩) (fun t ht hW => ⟨⟨(), r, rfl, trivial, rfl⟩, hS.F ht⟩) hS.2.2 hdg hlk
theorem end_V {P : Nat → Prop} {ad : Nat → Nat} {ct1 : Nat → va_E} {sz : Nat} (F : CallFix p m c cc nL s args TG own) (hr : meth.sig.returnType = none) (hlk : meth.locks = false) (hP : nw D vcl P ad ct1 H) (hS : va_S (na P ad sz) s.heap H locs) (hdg : decode cc pc = .ok (.return_, 1)) : W p l e R s m args below meth c H locs cells slots (MQ below (va_Qv (fun _ : Unit => True) (fun _ t => nw D vcl P ad ct1 t.heap) (na P ad sz)) args s cells slots (na P ad sz)) (F0 m pc ls []) :=
  W.vret F.1 F.2.1 hr (fun t ht hW => ⟨⟨(), rfl, trivial, by show nw D vcl P ad ct1 t.heap; rw [ht]; exact hP⟩, hS.F ht⟩) hS.2.2 hdg hlk
theorem end_I {P : Nat → Prop} {ad : Nat → Nat} {ct1 : Nat → va_E} {sz : Nat} {r : Int32} {ty : FieldType} (F : CallFix p m c cc nL s args TG own) (hr : meth.sig.returnType = some ty) (hlk : meth.locks = false) (hn : narrow ty (.int r) = .int r) (hP : nw D vcl P ad ct1 H) (hS : va_S (na P ad sz) s.heap H locs) (hdg : decode cc pc = .ok (.ireturn, 1)) : W p l e R s m args below meth c H locs cells slots (MQ below (va_Qi (fun r' (_ : Unit) => r' = r) (fun _ t => nw D vcl P ad ct1 t.heap) (na P ad sz)) args s cells slots (na P ad sz)) (F0 m pc ls [.int r]) :=
  W.zret F.1 F.2.1 hr hn (fun t ht hW => ⟨⟨r, (), rfl, rfl, by show nw D vcl P ad ct1 t.heap; rw [ht]; exact hP⟩, hS.F ht⟩) hS.2.2 hdg hlk
end CXS

/-! the beginning -/
theorem INV_0 : INV 0 (fun _ => 0) 0 false (fun _ => 0) 0 false 0 0 0 (fun _ => 0) (fun _ _ => 0) (fun _ => 0) (fun _ => 0) (fun _ => 6) (fun _ => 0) (fun _ => false) (fun _ => 0) (fun _ => 0) 0 none (fun _ => 0) := by
  refine ⟨⟨by omega, fun j => by show 0 < 256; omega, by omega, by omega⟩, ⟨by omega, by omega, fun b hb => by show 0 ≤ 0; omega⟩, ⟨fun b hb => ?_, fun j hj => by show 0 < 256; omega, fun b c hb hc h1 h2 => absurd h1 (by show ¬ 0 < 0; omega)⟩, ⟨⟨by omega, fun t ht => by omega, fun t u _ ht => by omega, fun b hb => ⟨fun q => absurd q (by simp), fun ⟨t, ht, _⟩ => by omega⟩⟩, fun t ht => by omega, fun b hb => ⟨by show 0 < 2 ^ 16; omega, by show 6 < 2 ^ 16; omega⟩⟩, fun _ => Or.inr ⟨rfl, rfl⟩⟩
  refine ⟨Or.inl rfl, fun j hj => by show 0 < 256; omega, by show 0 ≤ 226; omega, by show 0 ≤ 2040; omega, ⟨fun q => ?_, fun q => absurd q (by show ¬ 0 < 0; omega)⟩, fun q => absurd q (by show ¬ 0 < 0; omega)⟩
  rw [begB_e] at q
  exact absurd q (by simp [fB, vc])
/-! the law's rows: calls of its helpers, its worlds, its script -/
section LWR
variable {p : Program} {l : Launch} {e : Env} {R : Room} {s : State} {m : MethodId} {args : Array Value} {below : List Frame} {meth : Method} {c : Code} {H : Heap} {locs : List Loc} {cells slots : Nat} {Q : State → Prop}
variable {cc : ByteArray} {pc nL : Nat} {ls : Array Slot} {rest st0 : List Value} {D : va_G} {cy : Nat → ClassId} {A : Nat → Prop} {H0 : Heap} {own C : String} {index maxL n : Nat} {y : MethodName} {bytes : ByteArray} {ret : Option FieldType} {rm : Room} {b : Addr} {As : List Value}
theorem preH_blind {ad : Nat → Nat} {ct : Nat → va_E} {oa : Nat} {x : Int64} {sa : Nat → Nat} {base : Nat} {av : List Value} {sz : Nat} : FrameBlind (va_Pc av (fun U => U.heap.size = sz ∧ preH D cy ad ct oa x sa base U)) := fun a U g mk h =>
  ⟨h.1, h.2.1, ⟨⟨h.2.2.1.1.1, KN.same (u := U) rfl h.2.2.1.1.2.1, h.2.2.1.1.2.2⟩, KX.same (u := U) rfl rfl h.2.2.1.2.1, h.2.2.1.2.2⟩, h.2.2.2.1, h.2.2.2.2.1, h.2.2.2.2.2.1, NC.moved (u := U) (Vm.Alike.refl U.vm) h.2.2.2.2.2.2⟩
theorem call_H {hh : List (Nat × Nat × Nat × Nat)} {ad : Nat → Nat} {ct : Nat → va_E} {ct1 : (Nat → Nat) → Nat → va_E} {oa : Nat} {x : Int64} {sa : Nat → Nat} {base k : Nat} {r0 : Int64} (F : CallFix p m c cc nL s args TG own) (hK : KN D cy s) (hX : KX sa base s) (hNC : NC s) (hM : mtH l y bytes maxL hh D cy As ad ct ct1 oa x sa base k r0)
    (h1 : Cond.methodLink own index y ∈ TG) (h2 : Cond.static y ∈ TG) (h4 : Cond.initialized y.cls ∈ TG) (h5 : Cond.codeWith y bytes maxL (some .int) hh ∈ TG) (hd : y.cls ≠ "java/lang/invoke/MethodHandle" ∧ y.cls ≠ "java/lang/invoke/VarHandle" ∧ (parseMethodDescriptor y.desc).map (fun d => d.parameters.length) = some As.length) (hR : RH.frames + 1 ≤ R.frames ∧ 8 + (maxL + 11) + RH.locals ≤ R.locals)
    (hP : nw D vcl PT ad ct H) (hI : ∀ i j, PT i → PT j → ad i = ad j → i = j) (hlo : ∀ i, PT i → base ≤ ad i) (hO : nwo D cy oa x H) (hne : ∀ i, PT i → ad i ≠ oa) (hbo : base ≤ oa)
    (hsize : ls.size = nL) (hst : st0 = As.reverse ++ rest) (hW : (rest.map fun v => v.category).sum ≤ 8) (hdg : decode cc pc = .ok (.invokestatic index, 3)) (hf : cells + 2 ≤ R.cells ∧ slots + 2054 ≤ R.slots) (hS : va_S A s.heap H locs) (hA : ∀ q, naH ad oa H.size q → A q) (hAb : ∀ q, A q → base ≤ q)
    (kk : ∀ (ad' : Nat → Nat) (o' : Int64) (H1 : Heap) (locs1 : List Loc), nxt ad ad' H.size → (k = 0 → o' = r0) → nw D vcl PT ad' (ct1 ad') H1 → nwo D cy oa o' H1 → (∀ q : Nat, q < H.size → ¬ naH ad oa H.size q → H1[q]? = H[q]?) → va_S A s.heap H1 locs1 → W p l e R s m args below meth c H1 locs1 (cells + 2) (slots + 2054) Q (F0 m (pc + 3) ls (.int (nI k) :: rest))) :
    W p l e R s m args below meth c H locs cells slots Q (F0 m pc ls st0) := by
  refine va_calli (vx_runSW (hh := hh) (bytes := bytes) (maxL := maxL) (ret := some .int) (n := As.length) (As := As) (rest := rest) F (hM H.size) ⟨⟨rfl, rfl, hR.1, hR.2, pay_in F.2.2.2.2 (tg_cons h5), List.mem_cons_self⟩, F.2.2.2.2 _ h5, F.2.2.2.2 _ h4, ⟨hd.1, hd.2.1⟩, fun sig h => by
      have h9 := hd.2.2
      rw [h] at h9
      exact (Option.some.inj h9).symm, F.2.2.2.2 _ h1, F.2.2.2.2 _ h2⟩ ⟨preH_blind, fun U hU hW => ⟨rfl, by rw [hU], ⟨⟨by rw [hU]; exact hP, KN.warm hW hK, hI⟩, hX.now hW hU hS (fun q _ => hAb q), hlo⟩, by rw [hU]; exact hO, hne, hbo, NC.moved hW.alike hNC⟩⟩ rfl rfl hsize hst (lv_room hW) hdg hf) hS (fun q _ h => hA q h) hA (fun r' u t H1 locs1 ht hvm hw hB hz hk hS1 => ?_)
  obtain ⟨rfl, hnx, hok⟩ := hw
  have hB : nw D vcl PT u.1 (ct1 u.1) t.heap ∧ nwo D cy oa u.2 t.heap := hB
  rw [ht] at hB
  exact kk u.1 u.2 H1 locs1 hnx hok hB.1 hB.2 hk hS1
theorem call_J {P' : Nat → Prop} {ad' : Nat → Nat} {ct' ct1 : Nat → va_E} {r : Int64} (F : CallFix p m c cc nL s args TG own) (hK : KN D cy s) (hM : mtJ l y bytes maxL ret rm D cy (.ref b :: As) P' ad' ct' ct1 r)
    (h1 : Cond.methodLink own index y ∈ TG) (h2 : Cond.instanceMethod y ∈ TG) (h3 : Cond.selects y.cls y y ∈ TG) (h4 : Cond.initialized y.cls ∈ TG) (h5 : Cond.code y bytes maxL ret ∈ TG) (hd : y.cls ≠ "java/lang/invoke/MethodHandle" ∧ y.cls ≠ "java/lang/invoke/VarHandle" ∧ (parseMethodDescriptor y.desc).map (fun d => d.parameters.length) = some As.length) (hR : rm.frames + 1 ≤ R.frames ∧ 8 + (maxL + 11) + rm.locals ≤ R.locals)
    (hb : ∃ cell : Cell, H[b]? = some cell ∧ cell.vm.isStatics = false ∧ s.vm.findClass y.cls = some cell.cls) (hP' : nw D vcl P' ad' ct' H) (hI : ∀ i j, P' i → P' j → ad' i = ad' j → i = j)
    (hsize : ls.size = nL) (hst : st0 = As.reverse ++ .ref b :: rest) (hW : (rest.map fun v => v.category).sum ≤ 8) (hdg : decode cc pc = .ok (.invokevirtual index, 3)) (hf : cells + rm.cells ≤ R.cells ∧ slots + rm.slots ≤ R.slots) (hS : va_S A H0 H locs) (hA : ∀ q, na P' ad' H.size q → A q)
    (kk : ∀ (H1 : Heap) (locs1 : List Loc), nw D vcl P' ad' ct1 H1 → (∀ q : Nat, q < H.size → ¬ na P' ad' H.size q → H1[q]? = H[q]?) → va_S A H0 H1 locs1 → W p l e R s m args below meth c H1 locs1 (cells + rm.cells) (slots + rm.slots) Q (F0 m (pc + 3) ls (.long r :: rest))) :
    W p l e R s m args below meth c H locs cells slots Q (F0 m pc ls st0) := by
  refine va_calll (va_runV (As := As) (rest := rest) (b := b) F (hM H.size) ⟨cw_b As.length F.2.2.2.2 h1 h4 h5 hd hR, F.2.2.2.2 _ h2, F.2.2.2.2 _ h3⟩ ⟨pre0_blind, hb, pre0_at hK hP' hI⟩ rfl rfl hsize hst (lv_room hW) hdg hf) hS (fun q _ h => hA q h) hA (fun r' u t H1 locs1 ht hvm hw hB hz hk hS1 => ?_)
  subst hw
  have hB : nw D vcl P' ad' ct1 t.heap := hB
  rw [ht] at hB
  exact kk H1 locs1 hB hk hS1
/-- an int of the script -/
theorem sc_ld {L i a : Nat} {xs : Nat → Int32} {n : Int} (hx : p.tables.exec = Jvm.exec) (hb : c.code = cc) (hX : va_X b L xs s H0) (hbl : b < H0.size) (hbA : ¬ A b) (hS : va_S A H0 H locs) (hL : L < 2 ^ 31) (hi : i + a < L) (hv : Int32.ofInt n = nI a) (l0 : ls[0]? = some (.val (.ref b))) (l4 : ls[4]? = some (.val (.int (nI i))))
    (d0 : decode cc pc = .ok (.aload_n 0, 1)) (d1 : decode cc (pc + 1) = .ok (.iload 4, 2)) (d3 : decode cc (pc + 3) = .ok (.iconst n, 1)) (d4 : decode cc (pc + 4) = .ok (.iadd, 1)) (d5 : decode cc (pc + 5) = .ok (.iaload, 1))
    (kk : W p l e R s m args below meth c H locs cells slots Q (F0 m (pc + 6) ls (.int (xs (i + a)) :: rest))) : W p l e R s m args below meth c H locs cells slots Q (F0 m pc ls rest) := by
  refine lv_aload_n hx hb d0 rfl l0 ?_
  refine lv_iload hx hb d1 l4 ?_
  refine lv_iconst (v := nI a) hx hb d3 hv ?_
  refine lv_iadd hx hb d4 ?_
  refine lv_eqi (nI_add _ _) ?_
  refine va_sld hx hb hX hbl hbA hS (vp_in_nI hi hL) d5 ?_
  refine lv_eqi (y := xs (i + a)) (by rw [nI_clamp (by omega)]) ?_
  exact kk
end LWR
section LWI
/-- both worlds and the array of one long, apart from one another, all of them new -/
def LWI (D : va_G) (cy : Nat → ClassId) (base : Nat) (ct mt : (Nat → Nat) → Nat → va_E) (ad am : Nat → Nat) (oa : Nat) (x : Int64) (H : Heap) : Prop :=
  (nw D vcl PT ad (ct ad) H ∧ nw D vcl PM am (mt am) H ∧ nwo D cy oa x H) ∧ ((∀ i j, PT i → PT j → ad i = ad j → i = j) ∧ ∀ i j, PM i → PM j → am i = am j → i = j) ∧ ((∀ i j, PT i → PM j → ad i ≠ am j) ∧ (∀ i, PT i → ad i ≠ oa) ∧ ∀ j, PM j → am j ≠ oa) ∧ (∀ i, PT i → base ≤ ad i) ∧ (∀ j, PM j → base ≤ am j) ∧ base ≤ oa
variable {D : va_G} {cy : Nat → ClassId} {base : Nat} {ct mt ct' mt' : (Nat → Nat) → Nat → va_E} {ad am ad' : Nat → Nat} {oa : Nat} {x x' : Int64} {H H1 : Heap} {n k : Nat}
theorem LWI.oalt (h : LWI D cy base ct mt ad am oa x H) : oa < H.size := (h.1.2.2 0 (by decide)).lt
theorem LWI.hlp (h : LWI D cy base ct mt ad am oa x H) (hz : base ≤ H.size) (hn : nxt ad ad' H.size) (hP : nw D vcl PT ad' (ct' ad') H1) (hO : nwo D cy oa x' H1) (hk : ∀ q : Nat, q < H.size → ¬ naH ad oa H.size q → H1[q]? = H[q]?) : LWI D cy base ct' mt ad' am oa x' H1 := by
  have hol := h.oalt
  obtain ⟨⟨a1, a2, a3⟩, ⟨b1, b2⟩, ⟨c1, c2, c3⟩, d1, d2, d3⟩ := h
  refine ⟨⟨hP, nw_keep a2 hk (fun j hj q => ?_), hO⟩, ⟨hn.2.2, b2⟩, ⟨fun i j hi hj e => ?_, fun i hi e => ?_, c3⟩, fun i hi => ?_, d2, d3⟩
  · rcases q with (⟨i, hi, e⟩ | q) | q
    · exact c1 i j hi hj e.symm
    · exact absurd (nw_lt a2 hj) (Nat.not_lt.mpr q)
    · exact c3 j hj q
  · rcases hn.2.1 i hi with e1 | e1
    · exact c1 i j hi hj (e1.symm.trans e)
    · exact absurd (nw_lt a2 hj) (Nat.not_lt.mpr (e ▸ e1))
  · rcases hn.2.1 i hi with e1 | e1
    · exact c2 i hi (e1.symm.trans e)
    · exact absurd hol (Nat.not_lt.mpr (e ▸ e1))
  · rcases hn.2.1 i hi with e1 | e1
    · rw [e1]; exact d1 i hi
    · exact Nat.le_trans hz e1
theorem LWI.mnt (h : LWI D cy base ct mt ad am oa x H) (hz : base ≤ H.size) (hn : nxt ad ad' H.size) (hP : nw D vcl PT ad' (ct' ad') H1) (hk : ∀ q : Nat, q < H.size → ¬ na PT ad H.size q → H1[q]? = H[q]?) : LWI D cy base ct' mt ad' am oa x H1 := by
  refine h.hlp hz hn hP (nwo_keep h.1.2.2 hk (fun q => ?_)) (fun q hq hn => hk q hq (fun z => hn (Or.inl z)))
  rcases q with ⟨i, hi, e⟩ | q
  · exact h.2.2.1.2.1 i hi e.symm
  · exact absurd h.oalt (Nat.not_lt.mpr q)
theorem LWI.mdl (h : LWI D cy base ct mt ad am oa x H) (hP : nw D vcl PM am (mt' am) H1) (hk : ∀ q : Nat, q < H.size → ¬ na PM am H.size q → H1[q]? = H[q]?) : LWI D cy base ct mt' ad am oa x H1 := by
  have hol := h.oalt
  obtain ⟨⟨a1, a2, a3⟩, ⟨b1, b2⟩, ⟨c1, c2, c3⟩, d1, d2, d3⟩ := h
  refine ⟨⟨nw_keep a1 hk (fun i hi q => ?_), hP, nwo_keep a3 hk (fun q => ?_)⟩, ⟨b1, b2⟩, ⟨c1, c2, c3⟩, d1, d2, d3⟩
  · rcases q with ⟨j, hj, e⟩ | q
    · exact c1 i j hi hj e
    · exact absurd (nw_lt a1 hi) (Nat.not_lt.mpr q)
  · rcases q with ⟨j, hj, e⟩ | q
    · exact c3 j hj e.symm
    · exact absurd hol (Nat.not_lt.mpr q)
theorem LWI.all (h : LWI D cy base ct mt ad am oa x H) (ha : ∀ (P : Nat → Prop) (ad : Nat → Nat) (ct : Nat → va_E), nw D vcl P ad ct H → nw D vcl P ad ct H1) : LWI D cy base ct mt ad am oa x H1 := ⟨⟨ha _ _ _ h.1.1, ha _ _ _ h.1.2.1, ha _ _ _ h.1.2.2⟩, h.2⟩
theorem LWI.A1 (h : LWI D cy base ct mt ad am oa x H) (hz : base ≤ H.size) : ∀ q, naH ad oa H.size q → base ≤ q := fun q z => by
  rcases z with (⟨i, hi, e⟩ | z) | z
  · rw [e]; exact h.2.2.2.1 i hi
  · exact Nat.le_trans hz z
  · rw [z]; exact h.2.2.2.2.2
theorem LWI.A2 (h : LWI D cy base ct mt ad am oa x H) (hz : base ≤ H.size) : ∀ q, na PM am H.size q → base ≤ q := fun q z => by
  rcases z with ⟨i, hi, e⟩ | z
  · rw [e]; exact h.2.2.2.2.1 i hi
  · exact Nat.le_trans hz z
theorem LWI.A3 (h : LWI D cy base ct mt ad am oa x H) (hz : base ≤ H.size) : ∀ q, na PT ad H.size q → base ≤ q := fun q z => h.A1 hz q (Or.inl z)
theorem REL.c0 (h : REL cy n ct mt k) (ad : Nat → Nat) : ∃ f, ct ad 0 = .inr (4, f) := by
  obtain ⟨tp, rw, pt, cn, er, rc, re, be, co, fi, ro, cg, tn, ln, bg, cp, cb, pn, bn, fo, dn, op, w, lg, oq, hI, rfl, rfl⟩ := h
  exact ⟨_, tl_0⟩
theorem REL.m0 (h : REL cy n ct mt k) (am : Nat → Nat) : ∃ f, mt am 0 = .inr (5, f) := by
  obtain ⟨tp, rw, pt, cn, er, rc, re, be, co, fi, ro, cg, tn, ln, bg, cp, cb, pn, bn, fo, dn, op, w, lg, oq, hI, rfl, rfl⟩ := h
  exact ⟨_, md_0⟩
theorem REL.thr (h : REL cy n ct mt k) (l : Launch) (D : va_G) (am : Nat → Nat) : mtR l y_Mo_thrown b_Mo_thrown 1 (some .int) { frames := 0, cells := 0, slots := 0, locals := 0 } D cy [.ref (am 0)] PM am (mt am) (nI k) := by
  obtain ⟨tp, rw, pt, cn, er, rc, re, be, co, fi, ro, cg, tn, ln, bg, cp, cb, pn, bn, fo, dn, op, w, lg, oq, hI, rfl, rfl⟩ := h
  exact c_Mo_thrown l D cy am k tn cp cb bn fo dn w tp er be co fi ro lg oq
theorem REL.mono (h : REL cy n ct mt k) : REL cy (n + 1) ct mt k := by
  obtain ⟨tp, rw, pt, cn, er, rc, re, be, co, fi, ro, cg, tn, ln, bg, cp, cb, pn, bn, fo, dn, op, w, lg, oq, hI, rfl, rfl⟩ := h
  exact REL.mk (hI.mono (Nat.le_succ n))
theorem lw_gt {L i : Nat} (hL : L < 2 ^ 20) (hi : i < 2 ^ 20) : Int32.ofNat L - nI 6 < nI i ↔ L < i + 6 := by
  have h := pk_sub_toInt (a := L) (b := 6) (by omega) (by omega)
  show nI L - nI 6 < nI i ↔ _
  rw [Int32.lt_iff_toInt_lt, h, nI_toInt (by omega)]
  omega
end LWI

/-! the four kinds of exception: their words; contracts of methods that throw -/
abbrev xIA : String := "java/lang/IllegalArgumentException"
abbrev xIS : String := "java/lang/IllegalStateException"
abbrev xIB : String := "java/lang/IndexOutOfBoundsException"
abbrev xNE : String := "java/util/NoSuchElementException"
abbrev xN : List String := ["java/lang/RuntimeException", "java/lang/Exception"]
abbrev BW : List Cond := [Cond.castable xIA xIA, Cond.castable xIS xIS, Cond.castable xIB xIB, Cond.castable xNE xNE, Cond.declares ⟨"java/lang/RuntimeException", "<init>", "(Ljava/lang/String;)V"⟩, Cond.declares ⟨"java/lang/Exception", "<init>", "(Ljava/lang/String;)V"⟩, Cond.declares ⟨"java/lang/Throwable", "<init>", "(Ljava/lang/String;)V"⟩]
abbrev strW : List (Nat × String) := [(128, "the power failed"), (130, "the tape is full"), (123, "out of range"), (126, "negative"), (59, "the log has all blocks"), (74, "the power fails"), (83, "no such block"), (135, "no such record"), (116, "no such byte of the record")]
theorem BW_warm {s U : State} (hW : s.WarmedH U.vm) (h : ∀ w ∈ BW, va_Nw w s) : ∀ w ∈ BW, va_Nw w U := by
  intro w hw
  have hz := h w hw
  simp only [BW, List.mem_cons, List.not_mem_nil, or_false] at hw
  rcases hw with rfl | rfl | rfl | rfl | rfl | rfl | rfl <;> first | exact va_Nw.warmC hW hz | exact va_Nw.warmD hW hz
theorem BW_same {u U : State} (hv : u.vm = U.vm) (h : ∀ w ∈ BW, va_Nw w u) : ∀ w ∈ BW, va_Nw w U := by
  intro w hw
  have hz := h w hw
  simp only [BW, List.mem_cons, List.not_mem_nil, or_false] at hw
  rcases hw with rfl | rfl | rfl | rfl | rfl | rfl | rfl <;> exact va_Nw.same rfl hv hz
/-- what a making of an exception needs of the state: words, its text (sa), Throwable's two statics below base -/
def KX (sa : Nat → Nat) (base : Nat) (U : State) : Prop := (∀ w ∈ BW, va_Nw w U) ∧ (∀ q ∈ strW, vk_R R_Tl q.1 q.2 (sa q.1) U) ∧ vx_Zq Bundle.tN "UNASSIGNED_STACK" Bundle.steD (fun q => base ≤ q) U U.heap ∧ vx_Zq Bundle.tN "SUPPRESSED_SENTINEL" Bundle.listD (fun q => base ≤ q) U U.heap ∧ base ≤ U.heap.size
theorem KX.at {sa : Nat → Nat} {base : Nat} {s U : State} (h : KX sa base s) (hW : s.WarmedH U.vm) (hz : s.heap.size ≤ U.heap.size) (hk : ∀ a : Nat, a < s.heap.size → ¬ base ≤ a → U.heap[a]? = s.heap[a]?) : KX sa base U :=
  ⟨BW_warm hW h.1, fun q hq => vk_R.warm hW (h.2.1 q hq), vx_Zq.moved hW.alike (h.2.2.1.kept hk), vx_Zq.moved hW.alike (h.2.2.2.1.kept hk), Nat.le_trans h.2.2.2.2 hz⟩
theorem KX.same {sa : Nat → Nat} {base : Nat} {u U : State} (hv : u.vm = U.vm) (hh : u.heap = U.heap) (h : KX sa base u) : KX sa base U :=
  ⟨BW_same hv h.1, fun q hq => vk_R.same hv.symm (h.2.1 q hq), by rw [← hh]; exact vx_Zq.moved (hv ▸ Vm.Alike.refl u.vm) h.2.2.1, by rw [← hh]; exact vx_Zq.moved (hv ▸ Vm.Alike.refl u.vm) h.2.2.2.1, by rw [← hh]; exact h.2.2.2.2⟩
/-- at a later heap of the same body -/
theorem KX.now {sa : Nat → Nat} {base : Nat} {A : Nat → Prop} {s U : State} {H : Heap} {locs : List Loc} (h : KX sa base s) (hW : s.WarmedH U.vm) (hU : U.heap = H) (hS : va_S A s.heap H locs) (hA : ∀ q, q < s.heap.size → A q → base ≤ q) : KX sa base U :=
  h.at hW (by rw [hU]; exact hS.1) (fun a h1 h2 => by rw [hU]; exact hS.2.1 a h1 (fun z => h2 (hA a h1 z)))
theorem xg_IA : ∀ w ∈ (vx_atS R_Tl 125 xIA xN).filter goodWord, w ∈ TG := by decide +kernel
theorem xb_IA : ∀ w ∈ (vx_atS R_Tl 125 xIA xN).filter (fun w => !goodWord w), w ∈ BW := by decide +kernel
theorem xo_IA : ∀ w ∈ Cond.classLink R_Tl 121 xIA :: Cond.initialized xIA :: vx_atS R_Tl 125 xIA xN, vx_ot w = true := by decide +kernel
theorem xi_IA : Cond.initialized xIA ∈ TG := by decide +kernel
theorem xf_IA : Bundle.fit xIA = true := by decide +kernel
theorem xg_IS : ∀ w ∈ (vx_atS R_Tl 76 xIS xN).filter goodWord, w ∈ TG := by decide +kernel
theorem xb_IS : ∀ w ∈ (vx_atS R_Tl 76 xIS xN).filter (fun w => !goodWord w), w ∈ BW := by decide +kernel
theorem xo_IS : ∀ w ∈ Cond.classLink R_Tl 72 xIS :: Cond.initialized xIS :: vx_atS R_Tl 76 xIS xN, vx_ot w = true := by decide +kernel
theorem xi_IS : Cond.initialized xIS ∈ TG := by decide +kernel
theorem xf_IS : Bundle.fit xIS = true := by decide +kernel
theorem xg_IB : ∀ w ∈ (vx_atS R_Tl 61 xIB xN).filter goodWord, w ∈ TG := by decide +kernel
theorem xb_IB : ∀ w ∈ (vx_atS R_Tl 61 xIB xN).filter (fun w => !goodWord w), w ∈ BW := by decide +kernel
theorem xo_IB : ∀ w ∈ Cond.classLink R_Tl 57 xIB :: Cond.initialized xIB :: vx_atS R_Tl 61 xIB xN, vx_ot w = true := by decide +kernel
theorem xi_IB : Cond.initialized xIB ∈ TG := by decide +kernel
theorem xf_IB : Bundle.fit xIB = true := by decide +kernel
theorem xg_NE : ∀ w ∈ (ne_at R_Tl 85 xNE 13 prog_16_method_4_code "java/lang/RuntimeException" ["java/lang/Exception"]).filter goodWord, w ∈ TG := by decide +kernel
theorem xb_NE : ∀ w ∈ (ne_at R_Tl 85 xNE 13 prog_16_method_4_code "java/lang/RuntimeException" ["java/lang/Exception"]).filter (fun w => !goodWord w), w ∈ BW := by decide +kernel
theorem xo_NE : ∀ w ∈ Cond.classLink R_Tl 81 xNE :: Cond.initialized xNE :: ne_at R_Tl 85 xNE 13 prog_16_method_4_code "java/lang/RuntimeException" ["java/lang/Exception"], vx_ot w = true := by decide +kernel
theorem xi_NE : Cond.initialized xNE ∈ TG := by decide +kernel
theorem xf_NE : Bundle.fit xNE = true := by decide +kernel
theorem ne_x0 : decode prog_16_method_4_code 0 = .ok (.aload_n 0, 1) := by decide +kernel
theorem ne_x1 : decode prog_16_method_4_code 1 = .ok (.aload_n 1, 1) := by decide +kernel
theorem ne_x2 : decode prog_16_method_4_code 2 = .ok (.invokespecial 13, 3) := by decide +kernel
theorem ne_x5 : decode prog_16_method_4_code 5 = .ok (.return_, 1) := by decide +kernel
theorem xf_N : ∀ n ∈ xN, Bundle.fit n = true := by decide +kernel
theorem BW_use {args : Array Value} {s : State} (h : ∀ w ∈ BW, va_Nw w s) : ∀ w ∈ BW, w.before args s = true := by
  intro w hw
  have hz := h w hw
  simp only [BW, List.mem_cons, List.not_mem_nil, or_false] at hw
  rcases hw with rfl | rfl | rfl | rfl | rfl | rfl | rfl <;> exact va_Nw.use rfl hz
/-- a body that throws, from its entry -/
theorem nx_ofW {l : Launch} {y : MethodName} {rm : Room} {B : State → Prop} {Qc : Array Value → State → Outcome → State → Prop} {XC : String → State → State → Prop} {mc ms : Nat} {free : Addr → Prop} {cc : ByteArray} {maxL : Nat} {ret : Option FieldType} {av : List Value} {own : String}
    (hy : plainName y.cls = true) (hlen : (lg_sl av).length ≤ maxL) (ho : y.cls = own)
    (body : ∀ (p : Program) (e : Env) (s : State) (m : MethodId) (below : List Frame) (meth : Method) (c : Code) (ls : Array Slot), CallFix p m c cc maxL s av.toArray TG own → meth.sig.returnType = ret → meth.locks = false → (∀ x ∈ c.exceptionTable.toList, False) → B s → lv_has ls maxL (lv_args 0 av) →
      W p l e rm s m av.toArray below meth c s.heap [] 0 0 (vx_MQ below Qc XC av.toArray s mc ms free) (F0 m 0 ls [])) : vx_Met l y (Cond.code y cc maxL ret :: TG) rm (va_Pc av B) Qc XC mc ms free := by
  refine vx_ofW (cc := cc) (maxL := maxL) (ret := ret) hy rfl ?_
  intro p e s m args below meth c s₁ B0 hml hex hv
  obtain ⟨rfl, hv⟩ := hv
  have hts := atoms_spec (ws := Cond.code y cc maxL ret :: TG) B0.pre
  have hl := lv_entry av (n := maxL) hlen
  rw [lg_entry_eq]
  generalize (lg_sl av ++ List.replicate (maxL - (lg_sl av).length) Slot.unset).toArray = ls at hl ⊢
  exact body p e s m below meth c ls ⟨B0.exec, B0.bytes, hml, by rw [← ho]; exact findClass_of_methodNamed B0.named, fun w h => hts w (List.mem_cons_of_mem _ h)⟩ B0.returns B0.notSynchronized hex hv hl
/-- a world, and what a throw needs -/
def preX (D : va_G) (cy : Nat → ClassId) (P : Nat → Prop) (ad : Nat → Nat) (ct : Nat → va_E) (sa : Nat → Nat) (base : Nat) : State → Prop := fun U => pre0 D cy P ad ct U ∧ KX sa base U ∧ ∀ i, P i → base ≤ ad i
theorem preX_blind {D : va_G} {cy : Nat → ClassId} {P : Nat → Prop} {ad : Nat → Nat} {ct : Nat → va_E} {sa : Nat → Nat} {base : Nat} {av : List Value} {sz : Nat} : FrameBlind (va_Pc av (fun U => U.heap.size = sz ∧ preX D cy P ad ct sa base U)) := fun a U g mk h => ⟨h.1, h.2.1, ⟨h.2.2.1.1, KN.same (u := U) rfl h.2.2.1.2.1, h.2.2.1.2.2⟩, KX.same (u := U) rfl rfl h.2.2.2.1, h.2.2.2.2⟩
theorem preX_at {D : va_G} {cy : Nat → ClassId} {P : Nat → Prop} {ad : Nat → Nat} {ct : Nat → va_E} {sa : Nat → Nat} {base : Nat} {av : List Value} {A : Nat → Prop} {s : State} {H : Heap} {locs : List Loc} (hK : KN D cy s) (hX : KX sa base s) (hS : va_S A s.heap H locs) (hA : ∀ q, q < s.heap.size → A q → base ≤ q) (hP : nw D vcl P ad ct H) (hI : ∀ i j, P i → P j → ad i = ad j → i = j) (hlo : ∀ i, P i → base ≤ ad i) :
    ∀ U : State, U.heap = H → s.WarmedH U.vm → va_Pc av (fun U => U.heap.size = H.size ∧ preX D cy P ad ct sa base U) av.toArray U := fun U hU hW => ⟨rfl, by rw [hU], ⟨by rw [hU]; exact hP, KN.warm hW hK, hI⟩, hX.now hW hU hS hA, hlo⟩
abbrev noR : Array Value → State → Outcome → State → Prop := fun _ _ _ _ => False
/-- a callee that throws E, and changes nothing -/
abbrev mtT (l : Launch) (y : MethodName) (cc : ByteArray) (maxL : Nat) (ret : Option FieldType) (rm : Room) (D : va_G) (cy : Nat → ClassId) (av : List Value) (P : Nat → Prop) (ad : Nat → Nat) (ct : Nat → va_E) (sa : Nat → Nat) (base : Nat) (E : String) : Prop :=
  ∀ sz : Nat, vx_Met l y (Cond.code y cc maxL ret :: TG) rm (va_Pc av (fun U => U.heap.size = sz ∧ preX D cy P ad ct sa base U)) noR (vx_X (fun _ : Unit => True) (fun E' _ _ => E' = E) (fun _ => False)) rm.cells rm.slots (fun _ => False)
section TX
variable {p : Program} {l : Launch} {e : Env} {R : Room} {s : State} {m : MethodId} {args : Array Value} {below : List Frame} {meth : Method} {c : Code} {H : Heap} {locs : List Loc} {cells slots : Nat} {Q : State → Prop}
variable {mc ms : Nat} {free : Addr → Prop} {A0 : Nat → Prop} {H0 : Heap} {pc : Nat} {ls : Array Slot} {st0 rest : List Value}
theorem vx_only {SX : Type} {px : SX → Prop} {BX : String → SX → State → Prop} {AX : Nat → Prop} (hr : vx_Run p l e R s m args below meth c H locs cells slots mc ms (F0 m pc ls st0) rest (fun _ _ _ => False) (vx_X px BX AX) free) (hS : va_S A0 H0 H locs) (hf : ∀ q, free q → A0 q) (hAX : ∀ q, q < H.size → AX q → A0 q)
    (kx : ∀ (E : String) (ce : Cell) (q9 : Addr) (u : SX) (t : State) (H1 : Heap) (locs1 : List Loc), t.heap = H1 → s.vm.Alike t.vm → px u → BX E u t → H.size ≤ H1.size → (∀ q : Nat, q < H.size → ¬ AX q → H1[q]? = H[q]?) → va_S A0 H0 H1 locs1 → H1[q9]? = some ce → ce.vm = .none → s.vm.findClass E = some ce.cls → vx_W p l e R s m args below meth c H1 locs1 (cells + mc) (slots + ms) Q (F0 m pc ls rest) q9) : W p l e R s m args below meth c H locs cells slots Q (F0 m pc ls st0) := by
  intro T hT X
  rcases hr T hT X with ⟨v, st₀, t, T', L, h0, X', hL, e1, e2, hno, st⟩ | ⟨q, st₀, t, T', L, E, ce, h0, X', hL, e1, e2, ⟨u, hp, hb, hF⟩, hce, hcv, hcl, st⟩
  · exact hno.elim
  · obtain ⟨k1, k2, k3⟩ := vx_keep h0 e1 hS hAX hf hL hF
    obtain ⟨t2, a1, b1⟩ := kx E ce q u t T'.heap (locs ++ L) e1.symm (by rw [← e2]; exact X'.warmed.alike) hp hb k1 k2 k3 (by rw [e1]; exact hce) hcv hcl T' rfl X'
    exact ⟨t2, st.trans a1, b1⟩
end TX

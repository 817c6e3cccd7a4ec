/-! the claim out of one walk of the law's body: what holds at the entry, the law's own end (kit/laws/SKELETON.whole) -/
def R_law : String := "TornLogLaw"
def lw_P (b : Addr) (xs : List Int32) (args : Array Value) (s : State) : Prop := args = #[.ref b] ∧ s.IntsAt b xs ∧ xs.length ≤ 3072 ∧ (Jvm.Cond.and given_1 narrow_1).before args s = true
def lw_Q (_ : Array Value) (s : State) (o : Outcome) (t : State) : Prop := o = .returned (some (.int 1)) ∧ Framed s o t [] 601024 7293034
def lw_Z (below : List Frame) (a : Array Value) (s : State) : State → Prop := fun t => ∃ o, t.status = .running ∧ Ended t below o ∧ lw_Q a s o t
/-- the law's own end, with 1 on the stack, nothing written that was there before, its room as the claim has it -/
theorem lw_ret {p : Program} {l : Launch} {e : Env} {s : State} {m : MethodId} {below : List Frame} {meth : Method} {c : Code} {b : Nat} (hx : p.tables.exec = Jvm.exec) (hb : c.code = code) (hr : meth.sig.returnType = ret) (hlocks : meth.locks = false) {pc : Nat} {H : Heap} {ls : Array Slot} (hdg : decode code pc = .ok (.ireturn, 1)) : W p l e room_1 s m #[Value.ref b] below meth c H [] 601024 7293034 (lw_Z below #[Value.ref b] s) (F0 m pc ls [.int 1]) := by
  intro T hT X
  obtain ⟨fs, hret, hrun, hended, hW, hframe⟩ := X.leave (v := some (.int 1)) (hlocks := hlocks) (fun h => by rw [hr] at h; cases h)
  have hmeth' : T.vm.method? m = some meth := X.method'
  refine ⟨T.setFrames fs, ?_, .returned (some (.int 1)), hrun, hended, rfl, ⟨_, rfl⟩, hW, hframe⟩
  jvm_step X.here [X.here.top, hx, hb, hdg, hmeth', hr, ret, narrow_b1]
  (try refine ⟨rfl, ?_⟩); (try refine ⟨rfl, ?_⟩)
  first | (intro acts; rw [hret _ acts rfl rfl rfl]) | rw [hret _ _ rfl rfl rfl]
  exact Steps.refl _
/-- what holds at the law's entry: the machine, the code, the tables' words, the script of L ints xs at the cell b, what the Statement gives of the start -/
def lw_At (p : Program) (s : State) (m : MethodId) (meth : Method) (c : Code) (b L : Nat) (xs : Nat → Int32) : Prop :=
  p.tables.exec = Jvm.exec ∧ c.code = code ∧ meth.sig.returnType = ret ∧ c.maxLocals = 8 ∧ s.vm.findClass R_law = some m.cls ∧ (∀ w ∈ lw_tbl, w.before #[Value.ref b] s = true) ∧ va_X b L xs s s.heap ∧ b < s.heap.size ∧ meth.locks = false ∧ (Jvm.Cond.and given_1 narrow_1).before #[Value.ref b] s = true
/-! the law's loop, from its head, with j calls made -/
theorem nI_inc6 (a : Nat) : nI a + Int32.ofInt 6 = nI (a + 6) := by
  rw [show Int32.ofInt 6 = nI 6 by decide, nI_add]
set_option maxRecDepth 100000 in
set_option maxHeartbeats 4000000 in
theorem law_loop {p : Program} {l : Launch} {e : Env} {s : State} {m : MethodId} {below : List Frame} {meth : Method} {c : Code} {D : va_G} {cy : Nat → ClassId} {b L oa : Nat} {xs : Nat → Int32} {sa am : Nat → Nat}
    (F : CallFix p m c code 8 s #[Value.ref b] TG R_Lw) (hK : KN D cy s) (hX : KX sa s.heap.size s) (hNC : NC s) (hl0 : l.stackTraces = false) (hS0 : va_X b L xs s s.heap) (hbl : b < s.heap.size) (hL : L ≤ 3072) (hr : meth.sig.returnType = ret) (hlk : meth.locks = false) :
    ∀ (d j : Nat), j + d = L / 6 → ∀ (ct mt : (Nat → Nat) → Nat → va_E) (k0 : Nat) (ad : Nat → Nat) (x : Int64) (H : Heap) (locs : List Loc) (ls : Array Slot), REL cy j ct mt k0 → LWI D cy s.heap.size ct mt ad am oa x H → va_S (fun q => s.heap.size ≤ q) s.heap H locs → lv_has ls 8 [(0, .ref b), (1, .ref (ad 0)), (2, .ref (am 0)), (3, .ref oa), (4, .int (nI (6 * j)))] →
      W p l e room_1 s m #[Value.ref b] below meth c H locs (66 + 2 * j) (52456 + 2054 * j) (lw_Z below #[Value.ref b] s) (F0 m 23 ls []) := by
  obtain ⟨hx, hb, hml, hown, hts⟩ := id F
  have hbA : ¬ (fun q : Nat => s.heap.size ≤ q) b := Nat.not_le.mpr hbl
  intro d
  induction d with
  | zero =>
    intro j hj ct mt k0 ad x H locs ls hR hI hS hl
    refine lv_iload hx hb d_Lw_law_23 (lv_at hl 4 rfl) ?_
    refine lv_aload_n hx hb d_Lw_law_25 rfl (lv_at hl 0 rfl) ?_
    refine va_slen hx hb hS0 hbl hbA hS d_Lw_law_26 ?_
    refine lv_bipush (v := nI 6) hx hb d_Lw_law_27 (by decide) ?_
    refine lv_isub hx hb d_Lw_law_29 ?_
    refine lv_icmp_gt (tgt := 738) hx hb d_Lw_law_30 (by decide) (fun _ => ?_) (fun h => absurd ((lw_gt (by omega) (by omega)).mpr (by omega)) h)
    refine lv_iconst (v := 1) hx hb d_Lw_law_738 (by decide) ?_
    refine va_forget (fun q hq => hS.2.2 q hq) ?_
    refine W.widen (k := 601024) (n := 7293034) (by omega) (by omega) ?_
    exact lw_ret hx hb hr hlk d_Lw_law_739
  | succ d ih =>
    intro j hj ct mt k0 ad x H locs ls hR hI hS hl
    refine lv_iload hx hb d_Lw_law_23 (lv_at hl 4 rfl) ?_
    refine lv_aload_n hx hb d_Lw_law_25 rfl (lv_at hl 0 rfl) ?_
    refine va_slen hx hb hS0 hbl hbA hS d_Lw_law_26 ?_
    refine lv_bipush (v := nI 6) hx hb d_Lw_law_27 (by decide) ?_
    refine lv_isub hx hb d_Lw_law_29 ?_
    refine lv_icmp_gt (tgt := 738) hx hb d_Lw_law_30 (by decide) (fun h => absurd ((lw_gt (by omega) (by omega)).mp h) (by omega)) (fun _ => ?_)
    refine lv_aload_n hx hb d_Lw_law_33 rfl (lv_at hl 0 rfl) ?_
    refine lv_iload hx hb d_Lw_law_34 (lv_at hl 4 rfl) ?_
    refine va_sld hx hb hS0 hbl hbA hS (vp_in_nI (by omega) (by omega)) d_Lw_law_36 ?_
    refine lv_bipush (v := 15) hx hb d_Lw_law_37 (by decide) ?_
    refine lv_iand hx hb d_Lw_law_39 ?_
    obtain ⟨v, hv, ev⟩ := pk_andE (xs (nI (6 * j)).toNatClampNeg) (m := 15) 4 (by decide)
    refine lv_eqi ev ?_
    have kk : ∀ (ct' mt' : (Nat → Nat) → Nat → va_E) (k' : Nat) (ad' : Nat → Nat) (x' : Int64) (H1 : Heap) (locs1 : List Loc) (ls1 : Array Slot), REL cy (j + 1) ct' mt' k' → LWI D cy s.heap.size ct' mt' ad' am oa x' H1 → va_S (fun q => s.heap.size ≤ q) s.heap H1 locs1 → lv_has ls1 8 [(0, .ref b), (1, .ref (ad' 0)), (2, .ref (am 0)), (3, .ref oa), (4, .int (nI (6 * j)))] → W p l e room_1 s m #[Value.ref b] below meth c H1 locs1 (66 + 2 * j + 2) (52456 + 2054 * j + 2054) (lw_Z below #[Value.ref b] s) (F0 m 732 ls1 []) := by
      intro ct' mt' k' ad' x' H1 locs1 ls1 hR' hI' hS' hl'
      refine lv_iinc (v := nI (6 * (j + 1))) (lv' := [(4, .int (nI (6 * (j + 1)))), (0, .ref b), (1, .ref (ad' 0)), (2, .ref (am 0)), (3, .ref oa)]) hx hb d_Lw_law_732 hl' (k := 4) rfl (nI_inc6 (6 * j)) (by decide) rfl (fun ls hl => ?_)
      refine lv_goto (tgt := 23) hx hb d_Lw_law_735 (by decide) ?_
      refine W.widen (k := 66 + 2 * (j + 1)) (n := 52456 + 2054 * (j + 1)) (by omega) (by omega) ?_
      exact ih (j + 1) (by omega) ct' mt' k' ad' x' H1 locs1 ls hR' hI' hS' (lv_sub hl [1, 2, 3, 4, 0] rfl)
    by_cases h9 : v ≤ 9
    · rcases (show v = 0 ∨ v = 1 ∨ v = 2 ∨ v = 3 ∨ v = 4 ∨ v = 5 ∨ v = 6 ∨ v = 7 ∨ v = 8 ∨ v = 9 by omega) with rfl | rfl | rfl | rfl | rfl | rfl | rfl | rfl | rfl | rfl
      · refine lv_tableIn (off := 56) (tgt := 96) hx hb d_Lw_law_40 (by decide) (by decide) (by decide) (by decide) ?_
        exact lc_feed F hK hX hNC hl0 hS0 hbl (by omega) (by omega) (by omega) hR hI hS hl (by show 66 + 2 * j + 2 ≤ 601024; omega) (by show 52456 + 2054 * j + 2054 ≤ 7293034; omega) kk
      · refine lv_tableIn (off := 160) (tgt := 200) hx hb d_Lw_law_40 (by decide) (by decide) (by decide) (by decide) ?_
        exact lc_fill F hK hX hNC hl0 hS0 hbl (by omega) (by omega) (by omega) hR hI hS hl (by show 66 + 2 * j + 2 ≤ 601024; omega) (by show 52456 + 2054 * j + 2054 ≤ 7293034; omega) kk
      · refine lv_tableIn (off := 228) (tgt := 268) hx hb d_Lw_law_40 (by decide) (by decide) (by decide) (by decide) ?_
        exact lc_end F hK hX hNC hl0 hS0 hbl (by omega) (by omega) (by omega) hR hI hS hl (by show 66 + 2 * j + 2 ≤ 601024; omega) (by show 52456 + 2054 * j + 2054 ≤ 7293034; omega) kk
      · refine lv_tableIn (off := 284) (tgt := 324) hx hb d_Lw_law_40 (by decide) (by decide) (by decide) (by decide) ?_
        exact lc_append F hK hX hNC hl0 hS0 hbl (by omega) (by omega) (by omega) hR hI hS hl (by show 66 + 2 * j + 2 ≤ 601024; omega) (by show 52456 + 2054 * j + 2054 ≤ 7293034; omega) kk
      · refine lv_tableIn (off := 364) (tgt := 404) hx hb d_Lw_law_40 (by decide) (by decide) (by decide) (by decide) ?_
        exact lc_retire F hK hX hNC hl0 hS0 hbl (by omega) (by omega) (by omega) hR hI hS hl (by show 66 + 2 * j + 2 ≤ 601024; omega) (by show 52456 + 2054 * j + 2054 ≤ 7293034; omega) kk
      · refine lv_tableIn (off := 420) (tgt := 460) hx hb d_Lw_law_40 (by decide) (by decide) (by decide) (by decide) ?_
        exact lc_cut F hK hX hNC hl0 hS0 hbl (by omega) (by omega) (by omega) hR hI hS hl (by show 66 + 2 * j + 2 ≤ 601024; omega) (by show 52456 + 2054 * j + 2054 ≤ 7293034; omega) kk
      · refine lv_tableIn (off := 488) (tgt := 528) hx hb d_Lw_law_40 (by decide) (by decide) (by decide) (by decide) ?_
        exact lc_mount F hK hX hNC hl0 hS0 hbl (by omega) (by omega) (by omega) hR hI hS hl (by show 66 + 2 * j + 2 ≤ 601024; omega) (by show 52456 + 2054 * j + 2054 ≤ 7293034; omega) kk
      · refine lv_tableIn (off := 501) (tgt := 541) hx hb d_Lw_law_40 (by decide) (by decide) (by decide) (by decide) ?_
        exact lc_record F hK hX hNC hl0 hS0 hbl (by omega) (by omega) (by omega) hR hI hS hl (by show 66 + 2 * j + 2 ≤ 601024; omega) (by show 52456 + 2054 * j + 2054 ≤ 7293034; omega) kk
      · refine lv_tableIn (off := 569) (tgt := 609) hx hb d_Lw_law_40 (by decide) (by decide) (by decide) (by decide) ?_
        exact lc_word F hK hX hNC hl0 hS0 hbl (by omega) (by omega) (by omega) hR hI hS hl (by show 66 + 2 * j + 2 ≤ 601024; omega) (by show 52456 + 2054 * j + 2054 ≤ 7293034; omega) kk
      · refine lv_tableIn (off := 636) (tgt := 676) hx hb d_Lw_law_40 (by decide) (by decide) (by decide) (by decide) ?_
        exact lc_count F hK hX hNC hl0 hS0 hbl (by omega) (by omega) (by omega) hR hI hS hl (by show 66 + 2 * j + 2 ≤ 601024; omega) (by show 52456 + 2054 * j + 2054 ≤ 7293034; omega) kk
    · refine lv_tableOut (tgt := 732) hx hb d_Lw_law_40 (Or.inr (by rw [nI_toInt (by omega)]; omega)) (by decide) ?_
      refine W.widen (k := 66 + 2 * j + 2) (n := 52456 + 2054 * j + 2054) (by omega) (by omega) ?_
      exact kk ct mt k0 ad x H locs ls hR.mono hI hS hl

/-! the law's helpers -/
abbrev ncL : List (String × String) := [(xIS, xIA), (xIB, xIA), (xIB, xIS), (xNE, xIA), (xNE, xIS), (xIB, xNE)]
def NC (U : State) : Prop := ∀ q ∈ ncL, va_Nc q.1 q.2 U
theorem NC.moved {u U : State} (hvm : u.vm.Alike U.vm) (h : NC u) : NC U := fun q hq => va_Nc.moved hvm (h q hq)
abbrev RH : Room := { frames := 8, cells := 2, slots := 2054, locals := 200 }
/-- the law's array of one long -/
def nwo (D : va_G) (cy : Nat → ClassId) (oa : Nat) (x : Int64) (H : Heap) : Prop := nw D vcl lt1 (fun _ => oa) (fun _ => .inl (cy 3, 1, .inr (.inl (fun _ => x)))) H
def naH (ad : Nat → Nat) (oa sz : Nat) : Nat → Prop := fun q => na PT ad sz q ∨ q = oa
def preH (D : va_G) (cy : Nat → ClassId) (ad : Nat → Nat) (ct : Nat → va_E) (oa : Nat) (x : Int64) (sa : Nat → Nat) (base : Nat) : State → Prop := fun U => preX D cy PT ad ct sa base U ∧ nwo D cy oa x U.heap ∧ (∀ i, PT i → ad i ≠ oa) ∧ base ≤ oa ∧ NC U
/-- a helper: its code k, what it leaves -/
abbrev mtH (l : Launch) (y : MethodName) (cc : ByteArray) (maxL : Nat) (hh : List (Nat × Nat × Nat × Nat)) (D : va_G) (cy : Nat → ClassId) (av : List Value) (ad : Nat → Nat) (ct : Nat → va_E) (ct1 : (Nat → Nat) → Nat → va_E) (oa : Nat) (x : Int64) (sa : Nat → Nat) (base : Nat) (k : Nat) (r : Int64) : Prop :=
  ∀ sz : Nat, Met l y (Cond.codeWith y cc maxL (some .int) hh :: TG) RH (va_Pc av (fun U => U.heap.size = sz ∧ preH D cy ad ct oa x sa base U)) (va_Qi (fun r' (u : (Nat → Nat) × Int64) => r' = nI k ∧ nxt ad u.1 sz ∧ (k = 0 → u.2 = r)) (fun u t => nw D vcl PT u.1 (ct1 u.1) t.heap ∧ nwo D cy oa u.2 t.heap) (naH ad oa sz)) RH.cells RH.slots (naH ad oa sz)
theorem nh_ofW {l : Launch} {y : MethodName} {rm : Room} {B : State → Prop} {Qc : Array Value → State → Outcome → State → Prop} {mc ms : Nat} {free : Addr → Prop} {cc : ByteArray} {maxL : Nat} {ret : Option FieldType} {hh : List (Nat × Nat × Nat × Nat)} {av : List Value} {own : String}
    (hy : plainName y.cls = true) (hlen : (lg_sl av).length ≤ maxL) (ho : y.cls = own)
    (body : ∀ (p : Program) (e : Env) (s : State) (m : MethodId) (below : List Frame) (meth : Method) (c : Code) (ls : Array Slot), CallFix p m c cc maxL s av.toArray TG own → meth.sig.returnType = ret → meth.locks = false → c.exceptionTable.toList = tableOf hh → B s → lv_has ls maxL (lv_args 0 av) →
      W p l e rm s m av.toArray below meth c s.heap [] 0 0 (MQ below Qc av.toArray s mc ms free) (F0 m 0 ls [])) : Met l y (Cond.codeWith y cc maxL ret hh :: TG) rm (va_Pc av B) Qc mc ms free := by
  refine va_MetW (cc := cc) (maxL := maxL) (ret := ret) (hh := hh) hy rfl ?_
  intro p e s m args below meth c s₁ B0 hml hv
  obtain ⟨rfl, hv⟩ := hv
  have hts := atoms_spec (ws := Cond.codeWith y cc maxL ret hh :: TG) B0.pre
  have htab := vx_table (x := y) B0 (hts _ List.mem_cons_self)
  have hl := lv_entry av (n := maxL) hlen
  rw [lg_entry_eq]
  generalize (lg_sl av ++ List.replicate (maxL - (lg_sl av).length) Slot.unset).toArray = ls at hl ⊢
  exact body p e s m below meth c ls ⟨B0.exec, B0.bytes, hml, by rw [← ho]; exact findClass_of_methodNamed B0.named, fun w h => hts w (List.mem_cons_of_mem _ h)⟩ B0.returns B0.notSynchronized htab hv hl
theorem nwo_keep {D : va_G} {cy : Nat → ClassId} {oa : Nat} {x : Int64} {H H1 : Heap} {A : Nat → Prop} (h : nwo D cy oa x H) (hk : ∀ q : Nat, q < H.size → ¬ A q → H1[q]? = H[q]?) (hA : ¬ A oa) : nwo D cy oa x H1 := fun i hi => (h i hi).kept (hk _ (h i hi).lt hA)
theorem nw_keep {D : va_G} {P : Nat → Prop} {ad : Nat → Nat} {ct : Nat → va_E} {H H1 : Heap} {A : Nat → Prop} (h : nw D vcl P ad ct H) (hk : ∀ q : Nat, q < H.size → ¬ A q → H1[q]? = H[q]?) (hA : ∀ i, P i → ¬ A (ad i)) : nw D vcl P ad ct H1 := fun i hi => (h i hi).kept (hk _ (h i hi).lt (hA i hi))
section NWL
variable {p : Program} {l : Launch} {e : Env} {R : Room} {s : State} {m : MethodId} {args : Array Value} {below : List Frame} {meth : Method} {c : Code} {H : Heap} {locs : List Loc} {cells slots : Nat} {Q : State → Prop}
variable {cc : ByteArray} {pc : Nat} {ls : Array Slot} {rest : List Value} {D : va_G} {cy : Nat → ClassId} {A : Nat → Prop} {H0 : Heap} {oa : Nat} {x : Int64}
theorem nwo_lald (hexec : p.tables.exec = Jvm.exec) (hb : c.code = cc) (hK : KN D cy s) (hO : nwo D cy oa x H) (hdg : decode cc pc = .ok (.laload, 1))
    (kk : W p l e R s m args below meth c H locs cells slots Q (F0 m (pc + 1) ls (.long x :: rest))) : W p l e R s m args below meth c H locs cells slots Q (F0 m pc ls (.int (nI 0) :: .ref oa :: rest)) :=
  va_lald (D := D) hexec hb hK.k (nw_one hO (i := 0) (by decide) rfl) 0 3 rfl rfl (vp_in_nI (by omega) (by omega)) hdg kk
theorem nwo_last {y : Int64} (hexec : p.tables.exec = Jvm.exec) (hb : c.code = cc) (hK : KN D cy s) (hO : nwo D cy oa x H) (hA : A oa) (hS : va_S A H0 H locs) (hdg : decode cc pc = .ok (.lastore, 1))
    (kk : ∀ (H1 : Heap) (locs1 : List Loc), nwo D cy oa y H1 → va_S A H0 H1 locs1 → H1.size = H.size → (∀ q : Nat, q ≠ oa → H1[q]? = H[q]?) → W p l e R s m args below meth c H1 locs1 cells slots Q (F0 m (pc + 1) ls rest)) : W p l e R s m args below meth c H locs cells slots Q (F0 m pc ls (.long y :: .int (nI 0) :: .ref oa :: rest)) := by
  have hat : H[oa]? = some (vp_cell (cy 3) (1, .inr (.inl (fun _ => x)))) := hO 0 (by decide)
  refine W.last hexec hb hat ((hK.k.2 3 _ rfl).1 1 (fun _ => .long x)) (fun q => by cases q) (by show ¬ (nI 0 < 0 ∨ (arrV _ _ _).slots.size ≤ _); rw [arrV_size]; show ¬ (nI 0 < 0 ∨ 1 ≤ (nI 0).toNatClampNeg); decide) rfl rfl hdg fun H1 e z oq => ?_
  refine kk H1 _ (fun i _ => ?_) (hS.put z oq hA) z oq
  show H1[oa]? = some (vp_cell _ _)
  rw [e]
  rw [vp_cell_l, vp_cell_l, arrV_store]
  congr 1
end NWL
set_option maxRecDepth 100000 in
set_option maxHeartbeats 4000000 in
theorem h_feed_ok (l : Launch) (D : va_G) (cy : Nat → ClassId) (ad : Nat → Nat) (ct : Nat → va_E) (ct1 : (Nat → Nat) → Nat → va_E) (f0 : List Value) (h0 : ct 0 = .inr (4, f0)) (oa : Nat) (x : Int64) (sa : Nat → Nat) (base : Nat) (x1 x2 x3 x4 x5 : Int32) (r : Int32) (hM : mtX l y_Tl_feed b_Tl_feed 6 (some .int) RT D cy [.ref (ad 0), .int x1, .int x2, .int x3, .int x4, .int x5] ad ct ct1 r) : mtH l y_Lw_feed b_Lw_feed 8 h_Lw_feed D cy [.ref (ad 0), .int x1, .int x2, .int x3, .int x4, .int x5, .ref oa] ad ct ct1 oa x sa base 0 r.toInt64 := by
  intro sz
  refine nh_ofW (cc := b_Lw_feed) (maxL := 8) (ret := some .int) (hh := h_Lw_feed) (own := R_Lw) (by decide) (Nat.le_of_ble_eq_true rfl) rfl ?_
  intro p e s m below meth c ls F hr hlk htab hv hl
  obtain ⟨hx, hb, hml, hown, hts⟩ := id F
  obtain ⟨rfl, ⟨⟨hP, hK, hI⟩, hX, hlo⟩, hO, hoa, hbo, hN⟩ := hv
  have hoN : ∀ {z : Nat}, z ≤ z → ¬ na PT ad s.heap.size oa := fun _ h => h.elim (fun ⟨i, hi, e⟩ => hoa i hi e.symm) (fun h => absurd (hO 0 (by decide)).lt (Nat.not_lt.mpr h))
  have hS : va_S (naH ad oa s.heap.size) s.heap s.heap [] := va_S.rf
  have hl : lv_has ls 8 [(0, .ref (ad 0)), (1, .int (x1)), (2, .int (x2)), (3, .int (x3)), (4, .int (x4)), (5, .int (x5)), (6, .ref (oa))] := hl
  refine lv_aload hx hb d_Lw_feed_0 (lv_at hl 6 rfl) ?_
  refine lv_iconst (v := nI 0) hx hb d_Lw_feed_2 (by decide) ?_
  refine lv_aload_n hx hb d_Lw_feed_3 rfl (lv_at hl 0 rfl) ?_
  refine lv_iload_n hx hb d_Lw_feed_4 rfl (lv_at hl 1 rfl) ?_
  refine lv_iload_n hx hb d_Lw_feed_5 rfl (lv_at hl 2 rfl) ?_
  refine lv_iload_n hx hb d_Lw_feed_6 rfl (lv_at hl 3 rfl) ?_
  refine lv_iload hx hb d_Lw_feed_7 (lv_at hl 4 rfl) ?_
  refine lv_iload hx hb d_Lw_feed_9 (lv_at hl 5 rfl) ?_
  refine va_calli (va_runV (As := [.int x1, .int x2, .int x3, .int x4, .int x5]) (rest := [.int (nI 0), .ref oa]) (b := ad 0) F (hM s.heap.size) ⟨cw_b 5 hts km_Lw_7 k0_Tl kc_Tl_feed kd_Tl_feed ⟨(Nat.le_of_ble_eq_true rfl), (Nat.le_of_ble_eq_true rfl)⟩, hts _ ki_Tl_feed, hts _ ks_Tl_feed⟩ ⟨pre0_blind, nw_recv hK.k hP (i := 0) (by decide) h0 rfl, pre0_at hK hP hI⟩ rfl rfl hl.1 rfl (lv_room (Nat.le_of_ble_eq_true rfl)) d_Lw_feed_11 ⟨(Nat.le_of_ble_eq_true rfl), (Nat.le_of_ble_eq_true rfl)⟩) hS (fun q _ h => Or.inl h) (fun q h => Or.inl h) (fun r' ad' t H1 locs1 ht hvm hw hB hz hk hS => ?_)
  obtain ⟨rfl, hnx⟩ := hw
  have hB : nw D vcl PT ad' (ct1 ad') t.heap := hB
  rw [ht] at hB
  have hO := nwo_keep hO hk (hoN (Nat.le_refl 0))
  have hda : ∀ i, PT i → ad' i ≠ oa := fun i hi h => (hnx.2.1 i hi).elim (fun e => hoa i hi (e.symm.trans h)) (fun z => hoN (Nat.le_refl 0) (Or.inr (by rw [← h]; exact z)))
  refine lv_i2l hx hb d_Lw_feed_14 rfl ?_
  refine nwo_last (y := r'.toInt64) hx hb hK hO (Or.inr rfl) hS d_Lw_feed_15 (fun H2 locs2 hO hS hz2 hq2 => ?_)
  have hB : nw D vcl PT ad' (ct1 ad') H2 := nw_keep hB (A := fun q => q = oa) (fun q _ h => hq2 q h) hda
  refine lv_goto (tgt := 27) hx hb d_Lw_feed_16 (by decide) ?_
  refine lv_iconst (v := nI 0) hx hb d_Lw_feed_27 (by decide) ?_
  refine W.widen (k := 2) (n := 2054) (Nat.le_of_ble_eq_true rfl) (Nat.le_of_ble_eq_true rfl) ?_
  exact W.zret hx hb hr rfl (fun t ht hW => ⟨⟨nI 0, (ad', r'.toInt64), rfl, ⟨rfl, hnx, fun _ => rfl⟩, by show nw D vcl PT ad' (ct1 ad') t.heap ∧ nwo D cy oa _ t.heap; rw [ht]; exact ⟨hB, hO⟩⟩, hS.F ht⟩) hS.2.2 d_Lw_feed_28 hlk
set_option maxRecDepth 100000 in
set_option maxHeartbeats 4000000 in
theorem h_feed_IS (l : Launch) (D : va_G) (cy : Nat → ClassId) (ad : Nat → Nat) (ct : Nat → va_E) (ct1 : (Nat → Nat) → Nat → va_E) (f0 : List Value) (h0 : ct 0 = .inr (4, f0)) (oa : Nat) (x : Int64) (sa : Nat → Nat) (base : Nat) (x1 x2 x3 x4 x5 : Int32) (r : Int64) (hM : mtU l y_Tl_feed b_Tl_feed 6 (some .int) RT D cy [.ref (ad 0), .int x1, .int x2, .int x3, .int x4, .int x5] ad ct ct1 sa base xIS) : mtH l y_Lw_feed b_Lw_feed 8 h_Lw_feed D cy [.ref (ad 0), .int x1, .int x2, .int x3, .int x4, .int x5, .ref oa] ad ct ct1 oa x sa base 1 r := by
  intro sz
  refine nh_ofW (cc := b_Lw_feed) (maxL := 8) (ret := some .int) (hh := h_Lw_feed) (own := R_Lw) (by decide) (Nat.le_of_ble_eq_true rfl) rfl ?_
  intro p e s m below meth c ls F hr hlk htab hv hl
  obtain ⟨hx, hb, hml, hown, hts⟩ := id F
  obtain ⟨rfl, ⟨⟨hP, hK, hI⟩, hX, hlo⟩, hO, hoa, hbo, hN⟩ := hv
  have hoN : ∀ {z : Nat}, z ≤ z → ¬ na PT ad s.heap.size oa := fun _ h => h.elim (fun ⟨i, hi, e⟩ => hoa i hi e.symm) (fun h => absurd (hO 0 (by decide)).lt (Nat.not_lt.mpr h))
  have hS : va_S (naH ad oa s.heap.size) s.heap s.heap [] := va_S.rf
  have hl : lv_has ls 8 [(0, .ref (ad 0)), (1, .int (x1)), (2, .int (x2)), (3, .int (x3)), (4, .int (x4)), (5, .int (x5)), (6, .ref (oa))] := hl
  refine lv_aload hx hb d_Lw_feed_0 (lv_at hl 6 rfl) ?_
  refine lv_iconst (v := nI 0) hx hb d_Lw_feed_2 (by decide) ?_
  refine lv_aload_n hx hb d_Lw_feed_3 rfl (lv_at hl 0 rfl) ?_
  refine lv_iload_n hx hb d_Lw_feed_4 rfl (lv_at hl 1 rfl) ?_
  refine lv_iload_n hx hb d_Lw_feed_5 rfl (lv_at hl 2 rfl) ?_
  refine lv_iload_n hx hb d_Lw_feed_6 rfl (lv_at hl 3 rfl) ?_
  refine lv_iload hx hb d_Lw_feed_7 (lv_at hl 4 rfl) ?_
  refine lv_iload hx hb d_Lw_feed_9 (lv_at hl 5 rfl) ?_
  refine vx_only (vx_runV (As := [.int x1, .int x2, .int x3, .int x4, .int x5]) (rest := [.int (nI 0), .ref oa]) (b := ad 0) F (hM s.heap.size) ⟨cw_b 5 hts km_Lw_7 k0_Tl kc_Tl_feed kd_Tl_feed ⟨(Nat.le_of_ble_eq_true rfl), (Nat.le_of_ble_eq_true rfl)⟩, hts _ ki_Tl_feed, hts _ ks_Tl_feed⟩ ⟨preX_blind, nw_recv hK.k hP (i := 0) (by decide) h0 rfl, preX_at hK hX hS (fun q _ h => h.elim (fun h => h.elim (fun ⟨i, hi, e⟩ => by rw [e]; exact hlo i hi) (fun h => Nat.le_trans hX.2.2.2.2 h)) (fun e => by rw [e]; exact hbo)) hP hI hlo⟩ rfl rfl hl.1 rfl (lv_room (Nat.le_of_ble_eq_true rfl)) d_Lw_feed_11 ⟨(Nat.le_of_ble_eq_true rfl), (Nat.le_of_ble_eq_true rfl)⟩) hS (fun q h => Or.inl h) (fun q _ h => Or.inl h) (fun E' ce q9 ad' t H1 locs1 ht hvm hnx hB hz hk hS hce hcv hcl => ?_)
  obtain ⟨hE, hB⟩ : E' = xIS ∧ nw D vcl PT ad' (ct1 ad') t.heap := hB
  subst hE
  rw [ht] at hB
  have hO := nwo_keep hO hk (hoN (Nat.le_refl 0))
  refine vx_catch (own := R_Lw) (name := xIS) hown [] ⟨0, 16, 19, 13⟩ [⟨0, 16, 23, 15⟩] htab (fun z hz => absurd hz List.not_mem_nil) (by decide) (by decide) (hts _ kl_Lw_13) (BW_use hX.1 _ (List.mem_of_getElem? (i := 1) rfl)) hce hcv hcl ?_
  refine lv_astore (lv' := [(7, .ref (q9)), (0, .ref (ad 0)), (1, .int (x1)), (2, .int (x2)), (3, .int (x3)), (4, .int (x4)), (5, .int (x5)), (6, .ref (oa))]) hx hb d_Lw_feed_19 hl (by decide) rfl (fun ls hl => ?_)
  refine lv_iconst (v := nI 1) hx hb d_Lw_feed_21 (by decide) ?_
  refine W.widen (k := 2) (n := 2054) (Nat.le_of_ble_eq_true rfl) (Nat.le_of_ble_eq_true rfl) ?_
  exact W.zret hx hb hr rfl (fun t ht hW => ⟨⟨nI 1, (ad', x), rfl, ⟨rfl, hnx, fun h => absurd h (by decide)⟩, by show nw D vcl PT ad' (ct1 ad') t.heap ∧ nwo D cy oa _ t.heap; rw [ht]; exact ⟨hB, hO⟩⟩, hS.F ht⟩) hS.2.2 d_Lw_feed_22 hlk
set_option maxRecDepth 100000 in
set_option maxHeartbeats 4000000 in
theorem h_feed_IB (l : Launch) (D : va_G) (cy : Nat → ClassId) (ad : Nat → Nat) (ct : Nat → va_E) (ct1 : (Nat → Nat) → Nat → va_E) (f0 : List Value) (h0 : ct 0 = .inr (4, f0)) (oa : Nat) (x : Int64) (sa : Nat → Nat) (base : Nat) (x1 x2 x3 x4 x5 : Int32) (r : Int64) (hM : mtU l y_Tl_feed b_Tl_feed 6 (some .int) RT D cy [.ref (ad 0), .int x1, .int x2, .int x3, .int x4, .int x5] ad ct ct1 sa base xIB) : mtH l y_Lw_feed b_Lw_feed 8 h_Lw_feed D cy [.ref (ad 0), .int x1, .int x2, .int x3, .int x4, .int x5, .ref oa] ad ct ct1 oa x sa base 2 r := by
  intro sz
  refine nh_ofW (cc := b_Lw_feed) (maxL := 8) (ret := some .int) (hh := h_Lw_feed) (own := R_Lw) (by decide) (Nat.le_of_ble_eq_true rfl) rfl ?_
  intro p e s m below meth c ls F hr hlk htab hv hl
  obtain ⟨hx, hb, hml, hown, hts⟩ := id F
  obtain ⟨rfl, ⟨⟨hP, hK, hI⟩, hX, hlo⟩, hO, hoa, hbo, hN⟩ := hv
  have hoN : ∀ {z : Nat}, z ≤ z → ¬ na PT ad s.heap.size oa := fun _ h => h.elim (fun ⟨i, hi, e⟩ => hoa i hi e.symm) (fun h => absurd (hO 0 (by decide)).lt (Nat.not_lt.mpr h))
  have hS : va_S (naH ad oa s.heap.size) s.heap s.heap [] := va_S.rf
  have hl : lv_has ls 8 [(0, .ref (ad 0)), (1, .int (x1)), (2, .int (x2)), (3, .int (x3)), (4, .int (x4)), (5, .int (x5)), (6, .ref (oa))] := hl
  refine lv_aload hx hb d_Lw_feed_0 (lv_at hl 6 rfl) ?_
  refine lv_iconst (v := nI 0) hx hb d_Lw_feed_2 (by decide) ?_
  refine lv_aload_n hx hb d_Lw_feed_3 rfl (lv_at hl 0 rfl) ?_
  refine lv_iload_n hx hb d_Lw_feed_4 rfl (lv_at hl 1 rfl) ?_
  refine lv_iload_n hx hb d_Lw_feed_5 rfl (lv_at hl 2 rfl) ?_
  refine lv_iload_n hx hb d_Lw_feed_6 rfl (lv_at hl 3 rfl) ?_
  refine lv_iload hx hb d_Lw_feed_7 (lv_at hl 4 rfl) ?_
  refine lv_iload hx hb d_Lw_feed_9 (lv_at hl 5 rfl) ?_
  refine vx_only (vx_runV (As := [.int x1, .int x2, .int x3, .int x4, .int x5]) (rest := [.int (nI 0), .ref oa]) (b := ad 0) F (hM s.heap.size) ⟨cw_b 5 hts km_Lw_7 k0_Tl kc_Tl_feed kd_Tl_feed ⟨(Nat.le_of_ble_eq_true rfl), (Nat.le_of_ble_eq_true rfl)⟩, hts _ ki_Tl_feed, hts _ ks_Tl_feed⟩ ⟨preX_blind, nw_recv hK.k hP (i := 0) (by decide) h0 rfl, preX_at hK hX hS (fun q _ h => h.elim (fun h => h.elim (fun ⟨i, hi, e⟩ => by rw [e]; exact hlo i hi) (fun h => Nat.le_trans hX.2.2.2.2 h)) (fun e => by rw [e]; exact hbo)) hP hI hlo⟩ rfl rfl hl.1 rfl (lv_room (Nat.le_of_ble_eq_true rfl)) d_Lw_feed_11 ⟨(Nat.le_of_ble_eq_true rfl), (Nat.le_of_ble_eq_true rfl)⟩) hS (fun q h => Or.inl h) (fun q _ h => Or.inl h) (fun E' ce q9 ad' t H1 locs1 ht hvm hnx hB hz hk hS hce hcv hcl => ?_)
  obtain ⟨hE, hB⟩ : E' = xIB ∧ nw D vcl PT ad' (ct1 ad') t.heap := hB
  subst hE
  rw [ht] at hB
  have hO := nwo_keep hO hk (hoN (Nat.le_refl 0))
  have hpass : ∀ z ∈ ([⟨0, 16, 19, 13⟩] : List ExceptionTableEntry), covers z 11 = false ∨ (z.catchType ≠ 0 ∧ ∃ nm : String, (Cond.classLink R_Lw z.catchType nm).before ([.ref (ad 0), .int x1, .int x2, .int x3, .int x4, .int x5, .ref oa] : List Value).toArray s = true ∧ va_Nc xIB nm s) := by
    intro z hz
    simp only [List.mem_cons, List.not_mem_nil, or_false] at hz
    subst hz
    · exact Or.inr ⟨by decide, _, hts _ kl_Lw_13, hN _ (List.mem_of_getElem? (i := 2) rfl)⟩
  refine vx_catch (own := R_Lw) (name := xIB) hown [⟨0, 16, 19, 13⟩] ⟨0, 16, 23, 15⟩ [] htab hpass (by decide) (by decide) (hts _ kl_Lw_15) (BW_use hX.1 _ (List.mem_of_getElem? (i := 2) rfl)) hce hcv hcl ?_
  refine lv_astore (lv' := [(7, .ref (q9)), (0, .ref (ad 0)), (1, .int (x1)), (2, .int (x2)), (3, .int (x3)), (4, .int (x4)), (5, .int (x5)), (6, .ref (oa))]) hx hb d_Lw_feed_23 hl (by decide) rfl (fun ls hl => ?_)
  refine lv_iconst (v := nI 2) hx hb d_Lw_feed_25 (by decide) ?_
  refine W.widen (k := 2) (n := 2054) (Nat.le_of_ble_eq_true rfl) (Nat.le_of_ble_eq_true rfl) ?_
  exact W.zret hx hb hr rfl (fun t ht hW => ⟨⟨nI 2, (ad', x), rfl, ⟨rfl, hnx, fun h => absurd h (by decide)⟩, by show nw D vcl PT ad' (ct1 ad') t.heap ∧ nwo D cy oa _ t.heap; rw [ht]; exact ⟨hB, hO⟩⟩, hS.F ht⟩) hS.2.2 d_Lw_feed_26 hlk
set_option maxRecDepth 100000 in
set_option maxHeartbeats 4000000 in
theorem h_fill_ok (l : Launch) (D : va_G) (cy : Nat → ClassId) (ad : Nat → Nat) (ct : Nat → va_E) (ct1 : (Nat → Nat) → Nat → va_E) (f0 : List Value) (h0 : ct 0 = .inr (4, f0)) (oa : Nat) (x : Int64) (sa : Nat → Nat) (base : Nat) (x1 x2 : Int32) (r : Int32) (hM : mtX l y_Tl_fill b_Tl_fill 4 (some .int) RT D cy [.ref (ad 0), .int x1, .int x2] ad ct ct1 r) : mtH l y_Lw_fill b_Lw_fill 5 h_Lw_fill D cy [.ref (ad 0), .int x1, .int x2, .ref oa] ad ct ct1 oa x sa base 0 r.toInt64 := by
  intro sz
  refine nh_ofW (cc := b_Lw_fill) (maxL := 5) (ret := some .int) (hh := h_Lw_fill) (own := R_Lw) (by decide) (Nat.le_of_ble_eq_true rfl) rfl ?_
  intro p e s m below meth c ls F hr hlk htab hv hl
  obtain ⟨hx, hb, hml, hown, hts⟩ := id F
  obtain ⟨rfl, ⟨⟨hP, hK, hI⟩, hX, hlo⟩, hO, hoa, hbo, hN⟩ := hv
  have hoN : ∀ {z : Nat}, z ≤ z → ¬ na PT ad s.heap.size oa := fun _ h => h.elim (fun ⟨i, hi, e⟩ => hoa i hi e.symm) (fun h => absurd (hO 0 (by decide)).lt (Nat.not_lt.mpr h))
  have hS : va_S (naH ad oa s.heap.size) s.heap s.heap [] := va_S.rf
  have hl : lv_has ls 5 [(0, .ref (ad 0)), (1, .int (x1)), (2, .int (x2)), (3, .ref (oa))] := hl
  refine lv_aload_n hx hb d_Lw_fill_0 rfl (lv_at hl 3 rfl) ?_
  refine lv_iconst (v := nI 0) hx hb d_Lw_fill_1 (by decide) ?_
  refine lv_aload_n hx hb d_Lw_fill_2 rfl (lv_at hl 0 rfl) ?_
  refine lv_iload_n hx hb d_Lw_fill_3 rfl (lv_at hl 1 rfl) ?_
  refine lv_iload_n hx hb d_Lw_fill_4 rfl (lv_at hl 2 rfl) ?_
  refine va_calli (va_runV (As := [.int x1, .int x2]) (rest := [.int (nI 0), .ref oa]) (b := ad 0) F (hM s.heap.size) ⟨cw_b 2 hts km_Lw_17 k0_Tl kc_Tl_fill kd_Tl_fill ⟨(Nat.le_of_ble_eq_true rfl), (Nat.le_of_ble_eq_true rfl)⟩, hts _ ki_Tl_fill, hts _ ks_Tl_fill⟩ ⟨pre0_blind, nw_recv hK.k hP (i := 0) (by decide) h0 rfl, pre0_at hK hP hI⟩ rfl rfl hl.1 rfl (lv_room (Nat.le_of_ble_eq_true rfl)) d_Lw_fill_5 ⟨(Nat.le_of_ble_eq_true rfl), (Nat.le_of_ble_eq_true rfl)⟩) hS (fun q _ h => Or.inl h) (fun q h => Or.inl h) (fun r' ad' t H1 locs1 ht hvm hw hB hz hk hS => ?_)
  obtain ⟨rfl, hnx⟩ := hw
  have hB : nw D vcl PT ad' (ct1 ad') t.heap := hB
  rw [ht] at hB
  have hO := nwo_keep hO hk (hoN (Nat.le_refl 0))
  have hda : ∀ i, PT i → ad' i ≠ oa := fun i hi h => (hnx.2.1 i hi).elim (fun e => hoa i hi (e.symm.trans h)) (fun z => hoN (Nat.le_refl 0) (Or.inr (by rw [← h]; exact z)))
  refine lv_i2l hx hb d_Lw_fill_8 rfl ?_
  refine nwo_last (y := r'.toInt64) hx hb hK hO (Or.inr rfl) hS d_Lw_fill_9 (fun H2 locs2 hO hS hz2 hq2 => ?_)
  have hB : nw D vcl PT ad' (ct1 ad') H2 := nw_keep hB (A := fun q => q = oa) (fun q _ h => hq2 q h) hda
  refine lv_goto (tgt := 25) hx hb d_Lw_fill_10 (by decide) ?_
  refine lv_iconst (v := nI 0) hx hb d_Lw_fill_25 (by decide) ?_
  refine W.widen (k := 2) (n := 2054) (Nat.le_of_ble_eq_true rfl) (Nat.le_of_ble_eq_true rfl) ?_
  exact W.zret hx hb hr rfl (fun t ht hW => ⟨⟨nI 0, (ad', r'.toInt64), rfl, ⟨rfl, hnx, fun _ => rfl⟩, by show nw D vcl PT ad' (ct1 ad') t.heap ∧ nwo D cy oa _ t.heap; rw [ht]; exact ⟨hB, hO⟩⟩, hS.F ht⟩) hS.2.2 d_Lw_fill_26 hlk
set_option maxRecDepth 100000 in
set_option maxHeartbeats 4000000 in
theorem h_fill_IA (l : Launch) (D : va_G) (cy : Nat → ClassId) (ad : Nat → Nat) (ct : Nat → va_E) (ct1 : (Nat → Nat) → Nat → va_E) (f0 : List Value) (h0 : ct 0 = .inr (4, f0)) (oa : Nat) (x : Int64) (sa : Nat → Nat) (base : Nat) (x1 x2 : Int32) (r : Int64) (hM : mtU l y_Tl_fill b_Tl_fill 4 (some .int) RT D cy [.ref (ad 0), .int x1, .int x2] ad ct ct1 sa base xIA) : mtH l y_Lw_fill b_Lw_fill 5 h_Lw_fill D cy [.ref (ad 0), .int x1, .int x2, .ref oa] ad ct ct1 oa x sa base 1 r := by
  intro sz
  refine nh_ofW (cc := b_Lw_fill) (maxL := 5) (ret := some .int) (hh := h_Lw_fill) (own := R_Lw) (by decide) (Nat.le_of_ble_eq_true rfl) rfl ?_
  intro p e s m below meth c ls F hr hlk htab hv hl
  obtain ⟨hx, hb, hml, hown, hts⟩ := id F
  obtain ⟨rfl, ⟨⟨hP, hK, hI⟩, hX, hlo⟩, hO, hoa, hbo, hN⟩ := hv
  have hoN : ∀ {z : Nat}, z ≤ z → ¬ na PT ad s.heap.size oa := fun _ h => h.elim (fun ⟨i, hi, e⟩ => hoa i hi e.symm) (fun h => absurd (hO 0 (by decide)).lt (Nat.not_lt.mpr h))
  have hS : va_S (naH ad oa s.heap.size) s.heap s.heap [] := va_S.rf
  have hl : lv_has ls 5 [(0, .ref (ad 0)), (1, .int (x1)), (2, .int (x2)), (3, .ref (oa))] := hl
  refine lv_aload_n hx hb d_Lw_fill_0 rfl (lv_at hl 3 rfl) ?_
  refine lv_iconst (v := nI 0) hx hb d_Lw_fill_1 (by decide) ?_
  refine lv_aload_n hx hb d_Lw_fill_2 rfl (lv_at hl 0 rfl) ?_
  refine lv_iload_n hx hb d_Lw_fill_3 rfl (lv_at hl 1 rfl) ?_
  refine lv_iload_n hx hb d_Lw_fill_4 rfl (lv_at hl 2 rfl) ?_
  refine vx_only (vx_runV (As := [.int x1, .int x2]) (rest := [.int (nI 0), .ref oa]) (b := ad 0) F (hM s.heap.size) ⟨cw_b 2 hts km_Lw_17 k0_Tl kc_Tl_fill kd_Tl_fill ⟨(Nat.le_of_ble_eq_true rfl), (Nat.le_of_ble_eq_true rfl)⟩, hts _ ki_Tl_fill, hts _ ks_Tl_fill⟩ ⟨preX_blind, nw_recv hK.k hP (i := 0) (by decide) h0 rfl, preX_at hK hX hS (fun q _ h => h.elim (fun h => h.elim (fun ⟨i, hi, e⟩ => by rw [e]; exact hlo i hi) (fun h => Nat.le_trans hX.2.2.2.2 h)) (fun e => by rw [e]; exact hbo)) hP hI hlo⟩ rfl rfl hl.1 rfl (lv_room (Nat.le_of_ble_eq_true rfl)) d_Lw_fill_5 ⟨(Nat.le_of_ble_eq_true rfl), (Nat.le_of_ble_eq_true rfl)⟩) hS (fun q h => Or.inl h) (fun q _ h => Or.inl h) (fun E' ce q9 ad' t H1 locs1 ht hvm hnx hB hz hk hS hce hcv hcl => ?_)
  obtain ⟨hE, hB⟩ : E' = xIA ∧ nw D vcl PT ad' (ct1 ad') t.heap := hB
  subst hE
  rw [ht] at hB
  have hO := nwo_keep hO hk (hoN (Nat.le_refl 0))
  refine vx_catch (own := R_Lw) (name := xIA) hown [] ⟨0, 10, 13, 21⟩ [⟨0, 10, 17, 13⟩, ⟨0, 10, 21, 15⟩] htab (fun z hz => absurd hz List.not_mem_nil) (by decide) (by decide) (hts _ kl_Lw_21) (BW_use hX.1 _ (List.mem_of_getElem? (i := 0) rfl)) hce hcv hcl ?_
  refine lv_astore (lv' := [(4, .ref (q9)), (0, .ref (ad 0)), (1, .int (x1)), (2, .int (x2)), (3, .ref (oa))]) hx hb d_Lw_fill_13 hl (by decide) rfl (fun ls hl => ?_)
  refine lv_iconst (v := nI 1) hx hb d_Lw_fill_15 (by decide) ?_
  refine W.widen (k := 2) (n := 2054) (Nat.le_of_ble_eq_true rfl) (Nat.le_of_ble_eq_true rfl) ?_
  exact W.zret hx hb hr rfl (fun t ht hW => ⟨⟨nI 1, (ad', x), rfl, ⟨rfl, hnx, fun h => absurd h (by decide)⟩, by show nw D vcl PT ad' (ct1 ad') t.heap ∧ nwo D cy oa _ t.heap; rw [ht]; exact ⟨hB, hO⟩⟩, hS.F ht⟩) hS.2.2 d_Lw_fill_16 hlk
set_option maxRecDepth 100000 in
set_option maxHeartbeats 4000000 in
theorem h_fill_IS (l : Launch) (D : va_G) (cy : Nat → ClassId) (ad : Nat → Nat) (ct : Nat → va_E) (ct1 : (Nat → Nat) → Nat → va_E) (f0 : List Value) (h0 : ct 0 = .inr (4, f0)) (oa : Nat) (x : Int64) (sa : Nat → Nat) (base : Nat) (x1 x2 : Int32) (r : Int64) (hM : mtU l y_Tl_fill b_Tl_fill 4 (some .int) RT D cy [.ref (ad 0), .int x1, .int x2] ad ct ct1 sa base xIS) : mtH l y_Lw_fill b_Lw_fill 5 h_Lw_fill D cy [.ref (ad 0), .int x1, .int x2, .ref oa] ad ct ct1 oa x sa base 2 r := by
  intro sz
  refine nh_ofW (cc := b_Lw_fill) (maxL := 5) (ret := some .int) (hh := h_Lw_fill) (own := R_Lw) (by decide) (Nat.le_of_ble_eq_true rfl) rfl ?_
  intro p e s m below meth c ls F hr hlk htab hv hl
  obtain ⟨hx, hb, hml, hown, hts⟩ := id F
  obtain ⟨rfl, ⟨⟨hP, hK, hI⟩, hX, hlo⟩, hO, hoa, hbo, hN⟩ := hv
  have hoN : ∀ {z : Nat}, z ≤ z → ¬ na PT ad s.heap.size oa := fun _ h => h.elim (fun ⟨i, hi, e⟩ => hoa i hi e.symm) (fun h => absurd (hO 0 (by decide)).lt (Nat.not_lt.mpr h))
  have hS : va_S (naH ad oa s.heap.size) s.heap s.heap [] := va_S.rf
  have hl : lv_has ls 5 [(0, .ref (ad 0)), (1, .int (x1)), (2, .int (x2)), (3, .ref (oa))] := hl
  refine lv_aload_n hx hb d_Lw_fill_0 rfl (lv_at hl 3 rfl) ?_
  refine lv_iconst (v := nI 0) hx hb d_Lw_fill_1 (by decide) ?_
  refine lv_aload_n hx hb d_Lw_fill_2 rfl (lv_at hl 0 rfl) ?_
  refine lv_iload_n hx hb d_Lw_fill_3 rfl (lv_at hl 1 rfl) ?_
  refine lv_iload_n hx hb d_Lw_fill_4 rfl (lv_at hl 2 rfl) ?_
  refine vx_only (vx_runV (As := [.int x1, .int x2]) (rest := [.int (nI 0), .ref oa]) (b := ad 0) F (hM s.heap.size) ⟨cw_b 2 hts km_Lw_17 k0_Tl kc_Tl_fill kd_Tl_fill ⟨(Nat.le_of_ble_eq_true rfl), (Nat.le_of_ble_eq_true rfl)⟩, hts _ ki_Tl_fill, hts _ ks_Tl_fill⟩ ⟨preX_blind, nw_recv hK.k hP (i := 0) (by decide) h0 rfl, preX_at hK hX hS (fun q _ h => h.elim (fun h => h.elim (fun ⟨i, hi, e⟩ => by rw [e]; exact hlo i hi) (fun h => Nat.le_trans hX.2.2.2.2 h)) (fun e => by rw [e]; exact hbo)) hP hI hlo⟩ rfl rfl hl.1 rfl (lv_room (Nat.le_of_ble_eq_true rfl)) d_Lw_fill_5 ⟨(Nat.le_of_ble_eq_true rfl), (Nat.le_of_ble_eq_true rfl)⟩) hS (fun q h => Or.inl h) (fun q _ h => Or.inl h) (fun E' ce q9 ad' t H1 locs1 ht hvm hnx hB hz hk hS hce hcv hcl => ?_)
  obtain ⟨hE, hB⟩ : E' = xIS ∧ nw D vcl PT ad' (ct1 ad') t.heap := hB
  subst hE
  rw [ht] at hB
  have hO := nwo_keep hO hk (hoN (Nat.le_refl 0))
  have hpass : ∀ z ∈ ([⟨0, 10, 13, 21⟩] : List ExceptionTableEntry), covers z 5 = false ∨ (z.catchType ≠ 0 ∧ ∃ nm : String, (Cond.classLink R_Lw z.catchType nm).before ([.ref (ad 0), .int x1, .int x2, .ref oa] : List Value).toArray s = true ∧ va_Nc xIS nm s) := by
    intro z hz
    simp only [List.mem_cons, List.not_mem_nil, or_false] at hz
    subst hz
    · exact Or.inr ⟨by decide, _, hts _ kl_Lw_21, hN _ (List.mem_of_getElem? (i := 0) rfl)⟩
  refine vx_catch (own := R_Lw) (name := xIS) hown [⟨0, 10, 13, 21⟩] ⟨0, 10, 17, 13⟩ [⟨0, 10, 21, 15⟩] htab hpass (by decide) (by decide) (hts _ kl_Lw_13) (BW_use hX.1 _ (List.mem_of_getElem? (i := 1) rfl)) hce hcv hcl ?_
  refine lv_astore (lv' := [(4, .ref (q9)), (0, .ref (ad 0)), (1, .int (x1)), (2, .int (x2)), (3, .ref (oa))]) hx hb d_Lw_fill_17 hl (by decide) rfl (fun ls hl => ?_)
  refine lv_iconst (v := nI 2) hx hb d_Lw_fill_19 (by decide) ?_
  refine W.widen (k := 2) (n := 2054) (Nat.le_of_ble_eq_true rfl) (Nat.le_of_ble_eq_true rfl) ?_
  exact W.zret hx hb hr rfl (fun t ht hW => ⟨⟨nI 2, (ad', x), rfl, ⟨rfl, hnx, fun h => absurd h (by decide)⟩, by show nw D vcl PT ad' (ct1 ad') t.heap ∧ nwo D cy oa _ t.heap; rw [ht]; exact ⟨hB, hO⟩⟩, hS.F ht⟩) hS.2.2 d_Lw_fill_20 hlk
set_option maxRecDepth 100000 in
set_option maxHeartbeats 4000000 in
theorem h_fill_IB (l : Launch) (D : va_G) (cy : Nat → ClassId) (ad : Nat → Nat) (ct : Nat → va_E) (ct1 : (Nat → Nat) → Nat → va_E) (f0 : List Value) (h0 : ct 0 = .inr (4, f0)) (oa : Nat) (x : Int64) (sa : Nat → Nat) (base : Nat) (x1 x2 : Int32) (r : Int64) (hM : mtU l y_Tl_fill b_Tl_fill 4 (some .int) RT D cy [.ref (ad 0), .int x1, .int x2] ad ct ct1 sa base xIB) : mtH l y_Lw_fill b_Lw_fill 5 h_Lw_fill D cy [.ref (ad 0), .int x1, .int x2, .ref oa] ad ct ct1 oa x sa base 3 r := by
  intro sz
  refine nh_ofW (cc := b_Lw_fill) (maxL := 5) (ret := some .int) (hh := h_Lw_fill) (own := R_Lw) (by decide) (Nat.le_of_ble_eq_true rfl) rfl ?_
  intro p e s m below meth c ls F hr hlk htab hv hl
  obtain ⟨hx, hb, hml, hown, hts⟩ := id F
  obtain ⟨rfl, ⟨⟨hP, hK, hI⟩, hX, hlo⟩, hO, hoa, hbo, hN⟩ := hv
  have hoN : ∀ {z : Nat}, z ≤ z → ¬ na PT ad s.heap.size oa := fun _ h => h.elim (fun ⟨i, hi, e⟩ => hoa i hi e.symm) (fun h => absurd (hO 0 (by decide)).lt (Nat.not_lt.mpr h))
  have hS : va_S (naH ad oa s.heap.size) s.heap s.heap [] := va_S.rf
  have hl : lv_has ls 5 [(0, .ref (ad 0)), (1, .int (x1)), (2, .int (x2)), (3, .ref (oa))] := hl
  refine lv_aload_n hx hb d_Lw_fill_0 rfl (lv_at hl 3 rfl) ?_
  refine lv_iconst (v := nI 0) hx hb d_Lw_fill_1 (by decide) ?_
  refine lv_aload_n hx hb d_Lw_fill_2 rfl (lv_at hl 0 rfl) ?_
  refine lv_iload_n hx hb d_Lw_fill_3 rfl (lv_at hl 1 rfl) ?_
  refine lv_iload_n hx hb d_Lw_fill_4 rfl (lv_at hl 2 rfl) ?_
  refine vx_only (vx_runV (As := [.int x1, .int x2]) (rest := [.int (nI 0), .ref oa]) (b := ad 0) F (hM s.heap.size) ⟨cw_b 2 hts km_Lw_17 k0_Tl kc_Tl_fill kd_Tl_fill ⟨(Nat.le_of_ble_eq_true rfl), (Nat.le_of_ble_eq_true rfl)⟩, hts _ ki_Tl_fill, hts _ ks_Tl_fill⟩ ⟨preX_blind, nw_recv hK.k hP (i := 0) (by decide) h0 rfl, preX_at hK hX hS (fun q _ h => h.elim (fun h => h.elim (fun ⟨i, hi, e⟩ => by rw [e]; exact hlo i hi) (fun h => Nat.le_trans hX.2.2.2.2 h)) (fun e => by rw [e]; exact hbo)) hP hI hlo⟩ rfl rfl hl.1 rfl (lv_room (Nat.le_of_ble_eq_true rfl)) d_Lw_fill_5 ⟨(Nat.le_of_ble_eq_true rfl), (Nat.le_of_ble_eq_true rfl)⟩) hS (fun q h => Or.inl h) (fun q _ h => Or.inl h) (fun E' ce q9 ad' t H1 locs1 ht hvm hnx hB hz hk hS hce hcv hcl => ?_)
  obtain ⟨hE, hB⟩ : E' = xIB ∧ nw D vcl PT ad' (ct1 ad') t.heap := hB
  subst hE
  rw [ht] at hB
  have hO := nwo_keep hO hk (hoN (Nat.le_refl 0))
  have hpass : ∀ z ∈ ([⟨0, 10, 13, 21⟩, ⟨0, 10, 17, 13⟩] : List ExceptionTableEntry), covers z 5 = false ∨ (z.catchType ≠ 0 ∧ ∃ nm : String, (Cond.classLink R_Lw z.catchType nm).before ([.ref (ad 0), .int x1, .int x2, .ref oa] : List Value).toArray s = true ∧ va_Nc xIB nm s) := by
    intro z hz
    simp only [List.mem_cons, List.not_mem_nil, or_false] at hz
    rcases hz with rfl | rfl
    · exact Or.inr ⟨by decide, _, hts _ kl_Lw_21, hN _ (List.mem_of_getElem? (i := 1) rfl)⟩
    · exact Or.inr ⟨by decide, _, hts _ kl_Lw_13, hN _ (List.mem_of_getElem? (i := 2) rfl)⟩
  refine vx_catch (own := R_Lw) (name := xIB) hown [⟨0, 10, 13, 21⟩, ⟨0, 10, 17, 13⟩] ⟨0, 10, 21, 15⟩ [] htab hpass (by decide) (by decide) (hts _ kl_Lw_15) (BW_use hX.1 _ (List.mem_of_getElem? (i := 2) rfl)) hce hcv hcl ?_
  refine lv_astore (lv' := [(4, .ref (q9)), (0, .ref (ad 0)), (1, .int (x1)), (2, .int (x2)), (3, .ref (oa))]) hx hb d_Lw_fill_21 hl (by decide) rfl (fun ls hl => ?_)
  refine lv_iconst (v := nI 3) hx hb d_Lw_fill_23 (by decide) ?_
  refine W.widen (k := 2) (n := 2054) (Nat.le_of_ble_eq_true rfl) (Nat.le_of_ble_eq_true rfl) ?_
  exact W.zret hx hb hr rfl (fun t ht hW => ⟨⟨nI 3, (ad', x), rfl, ⟨rfl, hnx, fun h => absurd h (by decide)⟩, by show nw D vcl PT ad' (ct1 ad') t.heap ∧ nwo D cy oa _ t.heap; rw [ht]; exact ⟨hB, hO⟩⟩, hS.F ht⟩) hS.2.2 d_Lw_fill_24 hlk
set_option maxRecDepth 100000 in
set_option maxHeartbeats 4000000 in
theorem h_end_ok (l : Launch) (D : va_G) (cy : Nat → ClassId) (ad : Nat → Nat) (ct : Nat → va_E) (ct1 : (Nat → Nat) → Nat → va_E) (f0 : List Value) (h0 : ct 0 = .inr (4, f0)) (oa : Nat) (x : Int64) (sa : Nat → Nat) (base : Nat) (x1 : Int32) (r : Int32) (hM : mtX l y_Tl_end b_Tl_end 2 (some .int) RT D cy [.ref (ad 0), .int x1] ad ct ct1 r) : mtH l y_Lw_end b_Lw_end 4 h_Lw_end D cy [.ref (ad 0), .int x1, .ref oa] ad ct ct1 oa x sa base 0 r.toInt64 := by
  intro sz
  refine nh_ofW (cc := b_Lw_end) (maxL := 4) (ret := some .int) (hh := h_Lw_end) (own := R_Lw) (by decide) (Nat.le_of_ble_eq_true rfl) rfl ?_
  intro p e s m below meth c ls F hr hlk htab hv hl
  obtain ⟨hx, hb, hml, hown, hts⟩ := id F
  obtain ⟨rfl, ⟨⟨hP, hK, hI⟩, hX, hlo⟩, hO, hoa, hbo, hN⟩ := hv
  have hoN : ∀ {z : Nat}, z ≤ z → ¬ na PT ad s.heap.size oa := fun _ h => h.elim (fun ⟨i, hi, e⟩ => hoa i hi e.symm) (fun h => absurd (hO 0 (by decide)).lt (Nat.not_lt.mpr h))
  have hS : va_S (naH ad oa s.heap.size) s.heap s.heap [] := va_S.rf
  have hl : lv_has ls 4 [(0, .ref (ad 0)), (1, .int (x1)), (2, .ref (oa))] := hl
  refine lv_aload_n hx hb d_Lw_end_0 rfl (lv_at hl 2 rfl) ?_
  refine lv_iconst (v := nI 0) hx hb d_Lw_end_1 (by decide) ?_
  refine lv_aload_n hx hb d_Lw_end_2 rfl (lv_at hl 0 rfl) ?_
  refine lv_iload_n hx hb d_Lw_end_3 rfl (lv_at hl 1 rfl) ?_
  refine va_calli (va_runV (As := [.int x1]) (rest := [.int (nI 0), .ref oa]) (b := ad 0) F (hM s.heap.size) ⟨cw_b 1 hts km_Lw_23 k0_Tl kc_Tl_end kd_Tl_end ⟨(Nat.le_of_ble_eq_true rfl), (Nat.le_of_ble_eq_true rfl)⟩, hts _ ki_Tl_end, hts _ ks_Tl_end⟩ ⟨pre0_blind, nw_recv hK.k hP (i := 0) (by decide) h0 rfl, pre0_at hK hP hI⟩ rfl rfl hl.1 rfl (lv_room (Nat.le_of_ble_eq_true rfl)) d_Lw_end_4 ⟨(Nat.le_of_ble_eq_true rfl), (Nat.le_of_ble_eq_true rfl)⟩) hS (fun q _ h => Or.inl h) (fun q h => Or.inl h) (fun r' ad' t H1 locs1 ht hvm hw hB hz hk hS => ?_)
  obtain ⟨rfl, hnx⟩ := hw
  have hB : nw D vcl PT ad' (ct1 ad') t.heap := hB
  rw [ht] at hB
  have hO := nwo_keep hO hk (hoN (Nat.le_refl 0))
  have hda : ∀ i, PT i → ad' i ≠ oa := fun i hi h => (hnx.2.1 i hi).elim (fun e => hoa i hi (e.symm.trans h)) (fun z => hoN (Nat.le_refl 0) (Or.inr (by rw [← h]; exact z)))
  refine lv_i2l hx hb d_Lw_end_7 rfl ?_
  refine nwo_last (y := r'.toInt64) hx hb hK hO (Or.inr rfl) hS d_Lw_end_8 (fun H2 locs2 hO hS hz2 hq2 => ?_)
  have hB : nw D vcl PT ad' (ct1 ad') H2 := nw_keep hB (A := fun q => q = oa) (fun q _ h => hq2 q h) hda
  refine lv_goto (tgt := 18) hx hb d_Lw_end_9 (by decide) ?_
  refine lv_iconst (v := nI 0) hx hb d_Lw_end_18 (by decide) ?_
  refine W.widen (k := 2) (n := 2054) (Nat.le_of_ble_eq_true rfl) (Nat.le_of_ble_eq_true rfl) ?_
  exact W.zret hx hb hr rfl (fun t ht hW => ⟨⟨nI 0, (ad', r'.toInt64), rfl, ⟨rfl, hnx, fun _ => rfl⟩, by show nw D vcl PT ad' (ct1 ad') t.heap ∧ nwo D cy oa _ t.heap; rw [ht]; exact ⟨hB, hO⟩⟩, hS.F ht⟩) hS.2.2 d_Lw_end_19 hlk
set_option maxRecDepth 100000 in
set_option maxHeartbeats 4000000 in
theorem h_end_IA (l : Launch) (D : va_G) (cy : Nat → ClassId) (ad : Nat → Nat) (ct : Nat → va_E) (ct1 : (Nat → Nat) → Nat → va_E) (f0 : List Value) (h0 : ct 0 = .inr (4, f0)) (oa : Nat) (x : Int64) (sa : Nat → Nat) (base : Nat) (x1 : Int32) (r : Int64) (hM : mtU l y_Tl_end b_Tl_end 2 (some .int) RT D cy [.ref (ad 0), .int x1] ad ct ct1 sa base xIA) : mtH l y_Lw_end b_Lw_end 4 h_Lw_end D cy [.ref (ad 0), .int x1, .ref oa] ad ct ct1 oa x sa base 1 r := by
  intro sz
  refine nh_ofW (cc := b_Lw_end) (maxL := 4) (ret := some .int) (hh := h_Lw_end) (own := R_Lw) (by decide) (Nat.le_of_ble_eq_true rfl) rfl ?_
  intro p e s m below meth c ls F hr hlk htab hv hl
  obtain ⟨hx, hb, hml, hown, hts⟩ := id F
  obtain ⟨rfl, ⟨⟨hP, hK, hI⟩, hX, hlo⟩, hO, hoa, hbo, hN⟩ := hv
  have hoN : ∀ {z : Nat}, z ≤ z → ¬ na PT ad s.heap.size oa := fun _ h => h.elim (fun ⟨i, hi, e⟩ => hoa i hi e.symm) (fun h => absurd (hO 0 (by decide)).lt (Nat.not_lt.mpr h))
  have hS : va_S (naH ad oa s.heap.size) s.heap s.heap [] := va_S.rf
  have hl : lv_has ls 4 [(0, .ref (ad 0)), (1, .int (x1)), (2, .ref (oa))] := hl
  refine lv_aload_n hx hb d_Lw_end_0 rfl (lv_at hl 2 rfl) ?_
  refine lv_iconst (v := nI 0) hx hb d_Lw_end_1 (by decide) ?_
  refine lv_aload_n hx hb d_Lw_end_2 rfl (lv_at hl 0 rfl) ?_
  refine lv_iload_n hx hb d_Lw_end_3 rfl (lv_at hl 1 rfl) ?_
  refine vx_only (vx_runV (As := [.int x1]) (rest := [.int (nI 0), .ref oa]) (b := ad 0) F (hM s.heap.size) ⟨cw_b 1 hts km_Lw_23 k0_Tl kc_Tl_end kd_Tl_end ⟨(Nat.le_of_ble_eq_true rfl), (Nat.le_of_ble_eq_true rfl)⟩, hts _ ki_Tl_end, hts _ ks_Tl_end⟩ ⟨preX_blind, nw_recv hK.k hP (i := 0) (by decide) h0 rfl, preX_at hK hX hS (fun q _ h => h.elim (fun h => h.elim (fun ⟨i, hi, e⟩ => by rw [e]; exact hlo i hi) (fun h => Nat.le_trans hX.2.2.2.2 h)) (fun e => by rw [e]; exact hbo)) hP hI hlo⟩ rfl rfl hl.1 rfl (lv_room (Nat.le_of_ble_eq_true rfl)) d_Lw_end_4 ⟨(Nat.le_of_ble_eq_true rfl), (Nat.le_of_ble_eq_true rfl)⟩) hS (fun q h => Or.inl h) (fun q _ h => Or.inl h) (fun E' ce q9 ad' t H1 locs1 ht hvm hnx hB hz hk hS hce hcv hcl => ?_)
  obtain ⟨hE, hB⟩ : E' = xIA ∧ nw D vcl PT ad' (ct1 ad') t.heap := hB
  subst hE
  rw [ht] at hB
  have hO := nwo_keep hO hk (hoN (Nat.le_refl 0))
  refine vx_catch (own := R_Lw) (name := xIA) hown [] ⟨0, 9, 12, 21⟩ [⟨0, 9, 15, 13⟩] htab (fun z hz => absurd hz List.not_mem_nil) (by decide) (by decide) (hts _ kl_Lw_21) (BW_use hX.1 _ (List.mem_of_getElem? (i := 0) rfl)) hce hcv hcl ?_
  refine lv_astore_n (lv' := [(3, .ref (q9)), (0, .ref (ad 0)), (1, .int (x1)), (2, .ref (oa))]) hx hb d_Lw_end_12 rfl hl (by decide) rfl (fun ls hl => ?_)
  refine lv_iconst (v := nI 1) hx hb d_Lw_end_13 (by decide) ?_
  refine W.widen (k := 2) (n := 2054) (Nat.le_of_ble_eq_true rfl) (Nat.le_of_ble_eq_true rfl) ?_
  exact W.zret hx hb hr rfl (fun t ht hW => ⟨⟨nI 1, (ad', x), rfl, ⟨rfl, hnx, fun h => absurd h (by decide)⟩, by show nw D vcl PT ad' (ct1 ad') t.heap ∧ nwo D cy oa _ t.heap; rw [ht]; exact ⟨hB, hO⟩⟩, hS.F ht⟩) hS.2.2 d_Lw_end_14 hlk
set_option maxRecDepth 100000 in
set_option maxHeartbeats 4000000 in
theorem h_end_IS (l : Launch) (D : va_G) (cy : Nat → ClassId) (ad : Nat → Nat) (ct : Nat → va_E) (ct1 : (Nat → Nat) → Nat → va_E) (f0 : List Value) (h0 : ct 0 = .inr (4, f0)) (oa : Nat) (x : Int64) (sa : Nat → Nat) (base : Nat) (x1 : Int32) (r : Int64) (hM : mtU l y_Tl_end b_Tl_end 2 (some .int) RT D cy [.ref (ad 0), .int x1] ad ct ct1 sa base xIS) : mtH l y_Lw_end b_Lw_end 4 h_Lw_end D cy [.ref (ad 0), .int x1, .ref oa] ad ct ct1 oa x sa base 2 r := by
  intro sz
  refine nh_ofW (cc := b_Lw_end) (maxL := 4) (ret := some .int) (hh := h_Lw_end) (own := R_Lw) (by decide) (Nat.le_of_ble_eq_true rfl) rfl ?_
  intro p e s m below meth c ls F hr hlk htab hv hl
  obtain ⟨hx, hb, hml, hown, hts⟩ := id F
  obtain ⟨rfl, ⟨⟨hP, hK, hI⟩, hX, hlo⟩, hO, hoa, hbo, hN⟩ := hv
  have hoN : ∀ {z : Nat}, z ≤ z → ¬ na PT ad s.heap.size oa := fun _ h => h.elim (fun ⟨i, hi, e⟩ => hoa i hi e.symm) (fun h => absurd (hO 0 (by decide)).lt (Nat.not_lt.mpr h))
  have hS : va_S (naH ad oa s.heap.size) s.heap s.heap [] := va_S.rf
  have hl : lv_has ls 4 [(0, .ref (ad 0)), (1, .int (x1)), (2, .ref (oa))] := hl
  refine lv_aload_n hx hb d_Lw_end_0 rfl (lv_at hl 2 rfl) ?_
  refine lv_iconst (v := nI 0) hx hb d_Lw_end_1 (by decide) ?_
  refine lv_aload_n hx hb d_Lw_end_2 rfl (lv_at hl 0 rfl) ?_
  refine lv_iload_n hx hb d_Lw_end_3 rfl (lv_at hl 1 rfl) ?_
  refine vx_only (vx_runV (As := [.int x1]) (rest := [.int (nI 0), .ref oa]) (b := ad 0) F (hM s.heap.size) ⟨cw_b 1 hts km_Lw_23 k0_Tl kc_Tl_end kd_Tl_end ⟨(Nat.le_of_ble_eq_true rfl), (Nat.le_of_ble_eq_true rfl)⟩, hts _ ki_Tl_end, hts _ ks_Tl_end⟩ ⟨preX_blind, nw_recv hK.k hP (i := 0) (by decide) h0 rfl, preX_at hK hX hS (fun q _ h => h.elim (fun h => h.elim (fun ⟨i, hi, e⟩ => by rw [e]; exact hlo i hi) (fun h => Nat.le_trans hX.2.2.2.2 h)) (fun e => by rw [e]; exact hbo)) hP hI hlo⟩ rfl rfl hl.1 rfl (lv_room (Nat.le_of_ble_eq_true rfl)) d_Lw_end_4 ⟨(Nat.le_of_ble_eq_true rfl), (Nat.le_of_ble_eq_true rfl)⟩) hS (fun q h => Or.inl h) (fun q _ h => Or.inl h) (fun E' ce q9 ad' t H1 locs1 ht hvm hnx hB hz hk hS hce hcv hcl => ?_)
  obtain ⟨hE, hB⟩ : E' = xIS ∧ nw D vcl PT ad' (ct1 ad') t.heap := hB
  subst hE
  rw [ht] at hB
  have hO := nwo_keep hO hk (hoN (Nat.le_refl 0))
  have hpass : ∀ z ∈ ([⟨0, 9, 12, 21⟩] : List ExceptionTableEntry), covers z 4 = false ∨ (z.catchType ≠ 0 ∧ ∃ nm : String, (Cond.classLink R_Lw z.catchType nm).before ([.ref (ad 0), .int x1, .ref oa] : List Value).toArray s = true ∧ va_Nc xIS nm s) := by
    intro z hz
    simp only [List.mem_cons, List.not_mem_nil, or_false] at hz
    subst hz
    · exact Or.inr ⟨by decide, _, hts _ kl_Lw_21, hN _ (List.mem_of_getElem? (i := 0) rfl)⟩
  refine vx_catch (own := R_Lw) (name := xIS) hown [⟨0, 9, 12, 21⟩] ⟨0, 9, 15, 13⟩ [] htab hpass (by decide) (by decide) (hts _ kl_Lw_13) (BW_use hX.1 _ (List.mem_of_getElem? (i := 1) rfl)) hce hcv hcl ?_
  refine lv_astore_n (lv' := [(3, .ref (q9)), (0, .ref (ad 0)), (1, .int (x1)), (2, .ref (oa))]) hx hb d_Lw_end_15 rfl hl (by decide) rfl (fun ls hl => ?_)
  refine lv_iconst (v := nI 2) hx hb d_Lw_end_16 (by decide) ?_
  refine W.widen (k := 2) (n := 2054) (Nat.le_of_ble_eq_true rfl) (Nat.le_of_ble_eq_true rfl) ?_
  exact W.zret hx hb hr rfl (fun t ht hW => ⟨⟨nI 2, (ad', x), rfl, ⟨rfl, hnx, fun h => absurd h (by decide)⟩, by show nw D vcl PT ad' (ct1 ad') t.heap ∧ nwo D cy oa _ t.heap; rw [ht]; exact ⟨hB, hO⟩⟩, hS.F ht⟩) hS.2.2 d_Lw_end_17 hlk
set_option maxRecDepth 100000 in
set_option maxHeartbeats 4000000 in
theorem h_append_ok (l : Launch) (D : va_G) (cy : Nat → ClassId) (ad : Nat → Nat) (ct : Nat → va_E) (ct1 : (Nat → Nat) → Nat → va_E) (f0 : List Value) (h0 : ct 0 = .inr (4, f0)) (oa : Nat) (x : Int64) (sa : Nat → Nat) (base : Nat) (x1 x2 x3 : Int32) (r : Int32) (hM : mtX l y_Tl_append b_Tl_append 6 (some .int) RT D cy [.ref (ad 0), .int x1, .int x2, .int x3] ad ct ct1 r) : mtH l y_Lw_append b_Lw_append 6 h_Lw_append D cy [.ref (ad 0), .int x1, .int x2, .int x3, .ref oa] ad ct ct1 oa x sa base 0 r.toInt64 := by
  intro sz
  refine nh_ofW (cc := b_Lw_append) (maxL := 6) (ret := some .int) (hh := h_Lw_append) (own := R_Lw) (by decide) (Nat.le_of_ble_eq_true rfl) rfl ?_
  intro p e s m below meth c ls F hr hlk htab hv hl
  obtain ⟨hx, hb, hml, hown, hts⟩ := id F
  obtain ⟨rfl, ⟨⟨hP, hK, hI⟩, hX, hlo⟩, hO, hoa, hbo, hN⟩ := hv
  have hoN : ∀ {z : Nat}, z ≤ z → ¬ na PT ad s.heap.size oa := fun _ h => h.elim (fun ⟨i, hi, e⟩ => hoa i hi e.symm) (fun h => absurd (hO 0 (by decide)).lt (Nat.not_lt.mpr h))
  have hS : va_S (naH ad oa s.heap.size) s.heap s.heap [] := va_S.rf
  have hl : lv_has ls 6 [(0, .ref (ad 0)), (1, .int (x1)), (2, .int (x2)), (3, .int (x3)), (4, .ref (oa))] := hl
  refine lv_aload hx hb d_Lw_append_0 (lv_at hl 4 rfl) ?_
  refine lv_iconst (v := nI 0) hx hb d_Lw_append_2 (by decide) ?_
  refine lv_aload_n hx hb d_Lw_append_3 rfl (lv_at hl 0 rfl) ?_
  refine lv_iload_n hx hb d_Lw_append_4 rfl (lv_at hl 1 rfl) ?_
  refine lv_iload_n hx hb d_Lw_append_5 rfl (lv_at hl 2 rfl) ?_
  refine lv_iload_n hx hb d_Lw_append_6 rfl (lv_at hl 3 rfl) ?_
  refine va_calli (va_runV (As := [.int x1, .int x2, .int x3]) (rest := [.int (nI 0), .ref oa]) (b := ad 0) F (hM s.heap.size) ⟨cw_b 3 hts km_Lw_27 k0_Tl kc_Tl_append kd_Tl_append ⟨(Nat.le_of_ble_eq_true rfl), (Nat.le_of_ble_eq_true rfl)⟩, hts _ ki_Tl_append, hts _ ks_Tl_append⟩ ⟨pre0_blind, nw_recv hK.k hP (i := 0) (by decide) h0 rfl, pre0_at hK hP hI⟩ rfl rfl hl.1 rfl (lv_room (Nat.le_of_ble_eq_true rfl)) d_Lw_append_7 ⟨(Nat.le_of_ble_eq_true rfl), (Nat.le_of_ble_eq_true rfl)⟩) hS (fun q _ h => Or.inl h) (fun q h => Or.inl h) (fun r' ad' t H1 locs1 ht hvm hw hB hz hk hS => ?_)
  obtain ⟨rfl, hnx⟩ := hw
  have hB : nw D vcl PT ad' (ct1 ad') t.heap := hB
  rw [ht] at hB
  have hO := nwo_keep hO hk (hoN (Nat.le_refl 0))
  have hda : ∀ i, PT i → ad' i ≠ oa := fun i hi h => (hnx.2.1 i hi).elim (fun e => hoa i hi (e.symm.trans h)) (fun z => hoN (Nat.le_refl 0) (Or.inr (by rw [← h]; exact z)))
  refine lv_i2l hx hb d_Lw_append_10 rfl ?_
  refine nwo_last (y := r'.toInt64) hx hb hK hO (Or.inr rfl) hS d_Lw_append_11 (fun H2 locs2 hO hS hz2 hq2 => ?_)
  have hB : nw D vcl PT ad' (ct1 ad') H2 := nw_keep hB (A := fun q => q = oa) (fun q _ h => hq2 q h) hda
  refine lv_goto (tgt := 27) hx hb d_Lw_append_12 (by decide) ?_
  refine lv_iconst (v := nI 0) hx hb d_Lw_append_27 (by decide) ?_
  refine W.widen (k := 2) (n := 2054) (Nat.le_of_ble_eq_true rfl) (Nat.le_of_ble_eq_true rfl) ?_
  exact W.zret hx hb hr rfl (fun t ht hW => ⟨⟨nI 0, (ad', r'.toInt64), rfl, ⟨rfl, hnx, fun _ => rfl⟩, by show nw D vcl PT ad' (ct1 ad') t.heap ∧ nwo D cy oa _ t.heap; rw [ht]; exact ⟨hB, hO⟩⟩, hS.F ht⟩) hS.2.2 d_Lw_append_28 hlk
set_option maxRecDepth 100000 in
set_option maxHeartbeats 4000000 in
theorem h_append_IA (l : Launch) (D : va_G) (cy : Nat → ClassId) (ad : Nat → Nat) (ct : Nat → va_E) (ct1 : (Nat → Nat) → Nat → va_E) (f0 : List Value) (h0 : ct 0 = .inr (4, f0)) (oa : Nat) (x : Int64) (sa : Nat → Nat) (base : Nat) (x1 x2 x3 : Int32) (r : Int64) (hM : mtU l y_Tl_append b_Tl_append 6 (some .int) RT D cy [.ref (ad 0), .int x1, .int x2, .int x3] ad ct ct1 sa base xIA) : mtH l y_Lw_append b_Lw_append 6 h_Lw_append D cy [.ref (ad 0), .int x1, .int x2, .int x3, .ref oa] ad ct ct1 oa x sa base 1 r := by
  intro sz
  refine nh_ofW (cc := b_Lw_append) (maxL := 6) (ret := some .int) (hh := h_Lw_append) (own := R_Lw) (by decide) (Nat.le_of_ble_eq_true rfl) rfl ?_
  intro p e s m below meth c ls F hr hlk htab hv hl
  obtain ⟨hx, hb, hml, hown, hts⟩ := id F
  obtain ⟨rfl, ⟨⟨hP, hK, hI⟩, hX, hlo⟩, hO, hoa, hbo, hN⟩ := hv
  have hoN : ∀ {z : Nat}, z ≤ z → ¬ na PT ad s.heap.size oa := fun _ h => h.elim (fun ⟨i, hi, e⟩ => hoa i hi e.symm) (fun h => absurd (hO 0 (by decide)).lt (Nat.not_lt.mpr h))
  have hS : va_S (naH ad oa s.heap.size) s.heap s.heap [] := va_S.rf
  have hl : lv_has ls 6 [(0, .ref (ad 0)), (1, .int (x1)), (2, .int (x2)), (3, .int (x3)), (4, .ref (oa))] := hl
  refine lv_aload hx hb d_Lw_append_0 (lv_at hl 4 rfl) ?_
  refine lv_iconst (v := nI 0) hx hb d_Lw_append_2 (by decide) ?_
  refine lv_aload_n hx hb d_Lw_append_3 rfl (lv_at hl 0 rfl) ?_
  refine lv_iload_n hx hb d_Lw_append_4 rfl (lv_at hl 1 rfl) ?_
  refine lv_iload_n hx hb d_Lw_append_5 rfl (lv_at hl 2 rfl) ?_
  refine lv_iload_n hx hb d_Lw_append_6 rfl (lv_at hl 3 rfl) ?_
  refine vx_only (vx_runV (As := [.int x1, .int x2, .int x3]) (rest := [.int (nI 0), .ref oa]) (b := ad 0) F (hM s.heap.size) ⟨cw_b 3 hts km_Lw_27 k0_Tl kc_Tl_append kd_Tl_append ⟨(Nat.le_of_ble_eq_true rfl), (Nat.le_of_ble_eq_true rfl)⟩, hts _ ki_Tl_append, hts _ ks_Tl_append⟩ ⟨preX_blind, nw_recv hK.k hP (i := 0) (by decide) h0 rfl, preX_at hK hX hS (fun q _ h => h.elim (fun h => h.elim (fun ⟨i, hi, e⟩ => by rw [e]; exact hlo i hi) (fun h => Nat.le_trans hX.2.2.2.2 h)) (fun e => by rw [e]; exact hbo)) hP hI hlo⟩ rfl rfl hl.1 rfl (lv_room (Nat.le_of_ble_eq_true rfl)) d_Lw_append_7 ⟨(Nat.le_of_ble_eq_true rfl), (Nat.le_of_ble_eq_true rfl)⟩) hS (fun q h => Or.inl h) (fun q _ h => Or.inl h) (fun E' ce q9 ad' t H1 locs1 ht hvm hnx hB hz hk hS hce hcv hcl => ?_)
  obtain ⟨hE, hB⟩ : E' = xIA ∧ nw D vcl PT ad' (ct1 ad') t.heap := hB
  subst hE
  rw [ht] at hB
  have hO := nwo_keep hO hk (hoN (Nat.le_refl 0))
  refine vx_catch (own := R_Lw) (name := xIA) hown [] ⟨0, 12, 15, 21⟩ [⟨0, 12, 19, 13⟩, ⟨0, 12, 23, 15⟩] htab (fun z hz => absurd hz List.not_mem_nil) (by decide) (by decide) (hts _ kl_Lw_21) (BW_use hX.1 _ (List.mem_of_getElem? (i := 0) rfl)) hce hcv hcl ?_
  refine lv_astore (lv' := [(5, .ref (q9)), (0, .ref (ad 0)), (1, .int (x1)), (2, .int (x2)), (3, .int (x3)), (4, .ref (oa))]) hx hb d_Lw_append_15 hl (by decide) rfl (fun ls hl => ?_)
  refine lv_iconst (v := nI 1) hx hb d_Lw_append_17 (by decide) ?_
  refine W.widen (k := 2) (n := 2054) (Nat.le_of_ble_eq_true rfl) (Nat.le_of_ble_eq_true rfl) ?_
  exact W.zret hx hb hr rfl (fun t ht hW => ⟨⟨nI 1, (ad', x), rfl, ⟨rfl, hnx, fun h => absurd h (by decide)⟩, by show nw D vcl PT ad' (ct1 ad') t.heap ∧ nwo D cy oa _ t.heap; rw [ht]; exact ⟨hB, hO⟩⟩, hS.F ht⟩) hS.2.2 d_Lw_append_18 hlk
set_option maxRecDepth 100000 in
set_option maxHeartbeats 4000000 in
theorem h_append_IS (l : Launch) (D : va_G) (cy : Nat → ClassId) (ad : Nat → Nat) (ct : Nat → va_E) (ct1 : (Nat → Nat) → Nat → va_E) (f0 : List Value) (h0 : ct 0 = .inr (4, f0)) (oa : Nat) (x : Int64) (sa : Nat → Nat) (base : Nat) (x1 x2 x3 : Int32) (r : Int64) (hM : mtU l y_Tl_append b_Tl_append 6 (some .int) RT D cy [.ref (ad 0), .int x1, .int x2, .int x3] ad ct ct1 sa base xIS) : mtH l y_Lw_append b_Lw_append 6 h_Lw_append D cy [.ref (ad 0), .int x1, .int x2, .int x3, .ref oa] ad ct ct1 oa x sa base 2 r := by
  intro sz
  refine nh_ofW (cc := b_Lw_append) (maxL := 6) (ret := some .int) (hh := h_Lw_append) (own := R_Lw) (by decide) (Nat.le_of_ble_eq_true rfl) rfl ?_
  intro p e s m below meth c ls F hr hlk htab hv hl
  obtain ⟨hx, hb, hml, hown, hts⟩ := id F
  obtain ⟨rfl, ⟨⟨hP, hK, hI⟩, hX, hlo⟩, hO, hoa, hbo, hN⟩ := hv
  have hoN : ∀ {z : Nat}, z ≤ z → ¬ na PT ad s.heap.size oa := fun _ h => h.elim (fun ⟨i, hi, e⟩ => hoa i hi e.symm) (fun h => absurd (hO 0 (by decide)).lt (Nat.not_lt.mpr h))
  have hS : va_S (naH ad oa s.heap.size) s.heap s.heap [] := va_S.rf
  have hl : lv_has ls 6 [(0, .ref (ad 0)), (1, .int (x1)), (2, .int (x2)), (3, .int (x3)), (4, .ref (oa))] := hl
  refine lv_aload hx hb d_Lw_append_0 (lv_at hl 4 rfl) ?_
  refine lv_iconst (v := nI 0) hx hb d_Lw_append_2 (by decide) ?_
  refine lv_aload_n hx hb d_Lw_append_3 rfl (lv_at hl 0 rfl) ?_
  refine lv_iload_n hx hb d_Lw_append_4 rfl (lv_at hl 1 rfl) ?_
  refine lv_iload_n hx hb d_Lw_append_5 rfl (lv_at hl 2 rfl) ?_
  refine lv_iload_n hx hb d_Lw_append_6 rfl (lv_at hl 3 rfl) ?_
  refine vx_only (vx_runV (As := [.int x1, .int x2, .int x3]) (rest := [.int (nI 0), .ref oa]) (b := ad 0) F (hM s.heap.size) ⟨cw_b 3 hts km_Lw_27 k0_Tl kc_Tl_append kd_Tl_append ⟨(Nat.le_of_ble_eq_true rfl), (Nat.le_of_ble_eq_true rfl)⟩, hts _ ki_Tl_append, hts _ ks_Tl_append⟩ ⟨preX_blind, nw_recv hK.k hP (i := 0) (by decide) h0 rfl, preX_at hK hX hS (fun q _ h => h.elim (fun h => h.elim (fun ⟨i, hi, e⟩ => by rw [e]; exact hlo i hi) (fun h => Nat.le_trans hX.2.2.2.2 h)) (fun e => by rw [e]; exact hbo)) hP hI hlo⟩ rfl rfl hl.1 rfl (lv_room (Nat.le_of_ble_eq_true rfl)) d_Lw_append_7 ⟨(Nat.le_of_ble_eq_true rfl), (Nat.le_of_ble_eq_true rfl)⟩) hS (fun q h => Or.inl h) (fun q _ h => Or.inl h) (fun E' ce q9 ad' t H1 locs1 ht hvm hnx hB hz hk hS hce hcv hcl => ?_)
  obtain ⟨hE, hB⟩ : E' = xIS ∧ nw D vcl PT ad' (ct1 ad') t.heap := hB
  subst hE
  rw [ht] at hB
  have hO := nwo_keep hO hk (hoN (Nat.le_refl 0))
  have hpass : ∀ z ∈ ([⟨0, 12, 15, 21⟩] : List ExceptionTableEntry), covers z 7 = false ∨ (z.catchType ≠ 0 ∧ ∃ nm : String, (Cond.classLink R_Lw z.catchType nm).before ([.ref (ad 0), .int x1, .int x2, .int x3, .ref oa] : List Value).toArray s = true ∧ va_Nc xIS nm s) := by
    intro z hz
    simp only [List.mem_cons, List.not_mem_nil, or_false] at hz
    subst hz
    · exact Or.inr ⟨by decide, _, hts _ kl_Lw_21, hN _ (List.mem_of_getElem? (i := 0) rfl)⟩
  refine vx_catch (own := R_Lw) (name := xIS) hown [⟨0, 12, 15, 21⟩] ⟨0, 12, 19, 13⟩ [⟨0, 12, 23, 15⟩] htab hpass (by decide) (by decide) (hts _ kl_Lw_13) (BW_use hX.1 _ (List.mem_of_getElem? (i := 1) rfl)) hce hcv hcl ?_
  refine lv_astore (lv' := [(5, .ref (q9)), (0, .ref (ad 0)), (1, .int (x1)), (2, .int (x2)), (3, .int (x3)), (4, .ref (oa))]) hx hb d_Lw_append_19 hl (by decide) rfl (fun ls hl => ?_)
  refine lv_iconst (v := nI 2) hx hb d_Lw_append_21 (by decide) ?_
  refine W.widen (k := 2) (n := 2054) (Nat.le_of_ble_eq_true rfl) (Nat.le_of_ble_eq_true rfl) ?_
  exact W.zret hx hb hr rfl (fun t ht hW => ⟨⟨nI 2, (ad', x), rfl, ⟨rfl, hnx, fun h => absurd h (by decide)⟩, by show nw D vcl PT ad' (ct1 ad') t.heap ∧ nwo D cy oa _ t.heap; rw [ht]; exact ⟨hB, hO⟩⟩, hS.F ht⟩) hS.2.2 d_Lw_append_22 hlk
set_option maxRecDepth 100000 in
set_option maxHeartbeats 4000000 in
theorem h_append_IB (l : Launch) (D : va_G) (cy : Nat → ClassId) (ad : Nat → Nat) (ct : Nat → va_E) (ct1 : (Nat → Nat) → Nat → va_E) (f0 : List Value) (h0 : ct 0 = .inr (4, f0)) (oa : Nat) (x : Int64) (sa : Nat → Nat) (base : Nat) (x1 x2 x3 : Int32) (r : Int64) (hM : mtU l y_Tl_append b_Tl_append 6 (some .int) RT D cy [.ref (ad 0), .int x1, .int x2, .int x3] ad ct ct1 sa base xIB) : mtH l y_Lw_append b_Lw_append 6 h_Lw_append D cy [.ref (ad 0), .int x1, .int x2, .int x3, .ref oa] ad ct ct1 oa x sa base 3 r := by
  intro sz
  refine nh_ofW (cc := b_Lw_append) (maxL := 6) (ret := some .int) (hh := h_Lw_append) (own := R_Lw) (by decide) (Nat.le_of_ble_eq_true rfl) rfl ?_
  intro p e s m below meth c ls F hr hlk htab hv hl
  obtain ⟨hx, hb, hml, hown, hts⟩ := id F
  obtain ⟨rfl, ⟨⟨hP, hK, hI⟩, hX, hlo⟩, hO, hoa, hbo, hN⟩ := hv
  have hoN : ∀ {z : Nat}, z ≤ z → ¬ na PT ad s.heap.size oa := fun _ h => h.elim (fun ⟨i, hi, e⟩ => hoa i hi e.symm) (fun h => absurd (hO 0 (by decide)).lt (Nat.not_lt.mpr h))
  have hS : va_S (naH ad oa s.heap.size) s.heap s.heap [] := va_S.rf
  have hl : lv_has ls 6 [(0, .ref (ad 0)), (1, .int (x1)), (2, .int (x2)), (3, .int (x3)), (4, .ref (oa))] := hl
  refine lv_aload hx hb d_Lw_append_0 (lv_at hl 4 rfl) ?_
  refine lv_iconst (v := nI 0) hx hb d_Lw_append_2 (by decide) ?_
  refine lv_aload_n hx hb d_Lw_append_3 rfl (lv_at hl 0 rfl) ?_
  refine lv_iload_n hx hb d_Lw_append_4 rfl (lv_at hl 1 rfl) ?_
  refine lv_iload_n hx hb d_Lw_append_5 rfl (lv_at hl 2 rfl) ?_
  refine lv_iload_n hx hb d_Lw_append_6 rfl (lv_at hl 3 rfl) ?_
  refine vx_only (vx_runV (As := [.int x1, .int x2, .int x3]) (rest := [.int (nI 0), .ref oa]) (b := ad 0) F (hM s.heap.size) ⟨cw_b 3 hts km_Lw_27 k0_Tl kc_Tl_append kd_Tl_append ⟨(Nat.le_of_ble_eq_true rfl), (Nat.le_of_ble_eq_true rfl)⟩, hts _ ki_Tl_append, hts _ ks_Tl_append⟩ ⟨preX_blind, nw_recv hK.k hP (i := 0) (by decide) h0 rfl, preX_at hK hX hS (fun q _ h => h.elim (fun h => h.elim (fun ⟨i, hi, e⟩ => by rw [e]; exact hlo i hi) (fun h => Nat.le_trans hX.2.2.2.2 h)) (fun e => by rw [e]; exact hbo)) hP hI hlo⟩ rfl rfl hl.1 rfl (lv_room (Nat.le_of_ble_eq_true rfl)) d_Lw_append_7 ⟨(Nat.le_of_ble_eq_true rfl), (Nat.le_of_ble_eq_true rfl)⟩) hS (fun q h => Or.inl h) (fun q _ h => Or.inl h) (fun E' ce q9 ad' t H1 locs1 ht hvm hnx hB hz hk hS hce hcv hcl => ?_)
  obtain ⟨hE, hB⟩ : E' = xIB ∧ nw D vcl PT ad' (ct1 ad') t.heap := hB
  subst hE
  rw [ht] at hB
  have hO := nwo_keep hO hk (hoN (Nat.le_refl 0))
  have hpass : ∀ z ∈ ([⟨0, 12, 15, 21⟩, ⟨0, 12, 19, 13⟩] : List ExceptionTableEntry), covers z 7 = false ∨ (z.catchType ≠ 0 ∧ ∃ nm : String, (Cond.classLink R_Lw z.catchType nm).before ([.ref (ad 0), .int x1, .int x2, .int x3, .ref oa] : List Value).toArray s = true ∧ va_Nc xIB nm s) := by
    intro z hz
    simp only [List.mem_cons, List.not_mem_nil, or_false] at hz
    rcases hz with rfl | rfl
    · exact Or.inr ⟨by decide, _, hts _ kl_Lw_21, hN _ (List.mem_of_getElem? (i := 1) rfl)⟩
    · exact Or.inr ⟨by decide, _, hts _ kl_Lw_13, hN _ (List.mem_of_getElem? (i := 2) rfl)⟩
  refine vx_catch (own := R_Lw) (name := xIB) hown [⟨0, 12, 15, 21⟩, ⟨0, 12, 19, 13⟩] ⟨0, 12, 23, 15⟩ [] htab hpass (by decide) (by decide) (hts _ kl_Lw_15) (BW_use hX.1 _ (List.mem_of_getElem? (i := 2) rfl)) hce hcv hcl ?_
  refine lv_astore (lv' := [(5, .ref (q9)), (0, .ref (ad 0)), (1, .int (x1)), (2, .int (x2)), (3, .int (x3)), (4, .ref (oa))]) hx hb d_Lw_append_23 hl (by decide) rfl (fun ls hl => ?_)
  refine lv_iconst (v := nI 3) hx hb d_Lw_append_25 (by decide) ?_
  refine W.widen (k := 2) (n := 2054) (Nat.le_of_ble_eq_true rfl) (Nat.le_of_ble_eq_true rfl) ?_
  exact W.zret hx hb hr rfl (fun t ht hW => ⟨⟨nI 3, (ad', x), rfl, ⟨rfl, hnx, fun h => absurd h (by decide)⟩, by show nw D vcl PT ad' (ct1 ad') t.heap ∧ nwo D cy oa _ t.heap; rw [ht]; exact ⟨hB, hO⟩⟩, hS.F ht⟩) hS.2.2 d_Lw_append_26 hlk
set_option maxRecDepth 100000 in
set_option maxHeartbeats 4000000 in
theorem h_retire_ok (l : Launch) (D : va_G) (cy : Nat → ClassId) (ad : Nat → Nat) (ct : Nat → va_E) (ct1 : (Nat → Nat) → Nat → va_E) (f0 : List Value) (h0 : ct 0 = .inr (4, f0)) (oa : Nat) (x : Int64) (sa : Nat → Nat) (base : Nat) (x1 : Int32) (r : Int32) (hM : mtX l y_Tl_retire b_Tl_retire 2 (some .int) RT D cy [.ref (ad 0), .int x1] ad ct ct1 r) : mtH l y_Lw_retire b_Lw_retire 4 h_Lw_retire D cy [.ref (ad 0), .int x1, .ref oa] ad ct ct1 oa x sa base 0 r.toInt64 := by
  intro sz
  refine nh_ofW (cc := b_Lw_retire) (maxL := 4) (ret := some .int) (hh := h_Lw_retire) (own := R_Lw) (by decide) (Nat.le_of_ble_eq_true rfl) rfl ?_
  intro p e s m below meth c ls F hr hlk htab hv hl
  obtain ⟨hx, hb, hml, hown, hts⟩ := id F
  obtain ⟨rfl, ⟨⟨hP, hK, hI⟩, hX, hlo⟩, hO, hoa, hbo, hN⟩ := hv
  have hoN : ∀ {z : Nat}, z ≤ z → ¬ na PT ad s.heap.size oa := fun _ h => h.elim (fun ⟨i, hi, e⟩ => hoa i hi e.symm) (fun h => absurd (hO 0 (by decide)).lt (Nat.not_lt.mpr h))
  have hS : va_S (naH ad oa s.heap.size) s.heap s.heap [] := va_S.rf
  have hl : lv_has ls 4 [(0, .ref (ad 0)), (1, .int (x1)), (2, .ref (oa))] := hl
  refine lv_aload_n hx hb d_Lw_retire_0 rfl (lv_at hl 2 rfl) ?_
  refine lv_iconst (v := nI 0) hx hb d_Lw_retire_1 (by decide) ?_
  refine lv_aload_n hx hb d_Lw_retire_2 rfl (lv_at hl 0 rfl) ?_
  refine lv_iload_n hx hb d_Lw_retire_3 rfl (lv_at hl 1 rfl) ?_
  refine va_calli (va_runV (As := [.int x1]) (rest := [.int (nI 0), .ref oa]) (b := ad 0) F (hM s.heap.size) ⟨cw_b 1 hts km_Lw_31 k0_Tl kc_Tl_retire kd_Tl_retire ⟨(Nat.le_of_ble_eq_true rfl), (Nat.le_of_ble_eq_true rfl)⟩, hts _ ki_Tl_retire, hts _ ks_Tl_retire⟩ ⟨pre0_blind, nw_recv hK.k hP (i := 0) (by decide) h0 rfl, pre0_at hK hP hI⟩ rfl rfl hl.1 rfl (lv_room (Nat.le_of_ble_eq_true rfl)) d_Lw_retire_4 ⟨(Nat.le_of_ble_eq_true rfl), (Nat.le_of_ble_eq_true rfl)⟩) hS (fun q _ h => Or.inl h) (fun q h => Or.inl h) (fun r' ad' t H1 locs1 ht hvm hw hB hz hk hS => ?_)
  obtain ⟨rfl, hnx⟩ := hw
  have hB : nw D vcl PT ad' (ct1 ad') t.heap := hB
  rw [ht] at hB
  have hO := nwo_keep hO hk (hoN (Nat.le_refl 0))
  have hda : ∀ i, PT i → ad' i ≠ oa := fun i hi h => (hnx.2.1 i hi).elim (fun e => hoa i hi (e.symm.trans h)) (fun z => hoN (Nat.le_refl 0) (Or.inr (by rw [← h]; exact z)))
  refine lv_i2l hx hb d_Lw_retire_7 rfl ?_
  refine nwo_last (y := r'.toInt64) hx hb hK hO (Or.inr rfl) hS d_Lw_retire_8 (fun H2 locs2 hO hS hz2 hq2 => ?_)
  have hB : nw D vcl PT ad' (ct1 ad') H2 := nw_keep hB (A := fun q => q = oa) (fun q _ h => hq2 q h) hda
  refine lv_goto (tgt := 21) hx hb d_Lw_retire_9 (by decide) ?_
  refine lv_iconst (v := nI 0) hx hb d_Lw_retire_21 (by decide) ?_
  refine W.widen (k := 2) (n := 2054) (Nat.le_of_ble_eq_true rfl) (Nat.le_of_ble_eq_true rfl) ?_
  exact W.zret hx hb hr rfl (fun t ht hW => ⟨⟨nI 0, (ad', r'.toInt64), rfl, ⟨rfl, hnx, fun _ => rfl⟩, by show nw D vcl PT ad' (ct1 ad') t.heap ∧ nwo D cy oa _ t.heap; rw [ht]; exact ⟨hB, hO⟩⟩, hS.F ht⟩) hS.2.2 d_Lw_retire_22 hlk
set_option maxRecDepth 100000 in
set_option maxHeartbeats 4000000 in
theorem h_retire_IA (l : Launch) (D : va_G) (cy : Nat → ClassId) (ad : Nat → Nat) (ct : Nat → va_E) (ct1 : (Nat → Nat) → Nat → va_E) (f0 : List Value) (h0 : ct 0 = .inr (4, f0)) (oa : Nat) (x : Int64) (sa : Nat → Nat) (base : Nat) (x1 : Int32) (r : Int64) (hM : mtU l y_Tl_retire b_Tl_retire 2 (some .int) RT D cy [.ref (ad 0), .int x1] ad ct ct1 sa base xIA) : mtH l y_Lw_retire b_Lw_retire 4 h_Lw_retire D cy [.ref (ad 0), .int x1, .ref oa] ad ct ct1 oa x sa base 1 r := by
  intro sz
  refine nh_ofW (cc := b_Lw_retire) (maxL := 4) (ret := some .int) (hh := h_Lw_retire) (own := R_Lw) (by decide) (Nat.le_of_ble_eq_true rfl) rfl ?_
  intro p e s m below meth c ls F hr hlk htab hv hl
  obtain ⟨hx, hb, hml, hown, hts⟩ := id F
  obtain ⟨rfl, ⟨⟨hP, hK, hI⟩, hX, hlo⟩, hO, hoa, hbo, hN⟩ := hv
  have hoN : ∀ {z : Nat}, z ≤ z → ¬ na PT ad s.heap.size oa := fun _ h => h.elim (fun ⟨i, hi, e⟩ => hoa i hi e.symm) (fun h => absurd (hO 0 (by decide)).lt (Nat.not_lt.mpr h))
  have hS : va_S (naH ad oa s.heap.size) s.heap s.heap [] := va_S.rf
  have hl : lv_has ls 4 [(0, .ref (ad 0)), (1, .int (x1)), (2, .ref (oa))] := hl
  refine lv_aload_n hx hb d_Lw_retire_0 rfl (lv_at hl 2 rfl) ?_
  refine lv_iconst (v := nI 0) hx hb d_Lw_retire_1 (by decide) ?_
  refine lv_aload_n hx hb d_Lw_retire_2 rfl (lv_at hl 0 rfl) ?_
  refine lv_iload_n hx hb d_Lw_retire_3 rfl (lv_at hl 1 rfl) ?_
  refine vx_only (vx_runV (As := [.int x1]) (rest := [.int (nI 0), .ref oa]) (b := ad 0) F (hM s.heap.size) ⟨cw_b 1 hts km_Lw_31 k0_Tl kc_Tl_retire kd_Tl_retire ⟨(Nat.le_of_ble_eq_true rfl), (Nat.le_of_ble_eq_true rfl)⟩, hts _ ki_Tl_retire, hts _ ks_Tl_retire⟩ ⟨preX_blind, nw_recv hK.k hP (i := 0) (by decide) h0 rfl, preX_at hK hX hS (fun q _ h => h.elim (fun h => h.elim (fun ⟨i, hi, e⟩ => by rw [e]; exact hlo i hi) (fun h => Nat.le_trans hX.2.2.2.2 h)) (fun e => by rw [e]; exact hbo)) hP hI hlo⟩ rfl rfl hl.1 rfl (lv_room (Nat.le_of_ble_eq_true rfl)) d_Lw_retire_4 ⟨(Nat.le_of_ble_eq_true rfl), (Nat.le_of_ble_eq_true rfl)⟩) hS (fun q h => Or.inl h) (fun q _ h => Or.inl h) (fun E' ce q9 ad' t H1 locs1 ht hvm hnx hB hz hk hS hce hcv hcl => ?_)
  obtain ⟨hE, hB⟩ : E' = xIA ∧ nw D vcl PT ad' (ct1 ad') t.heap := hB
  subst hE
  rw [ht] at hB
  have hO := nwo_keep hO hk (hoN (Nat.le_refl 0))
  refine vx_catch (own := R_Lw) (name := xIA) hown [] ⟨0, 9, 12, 21⟩ [⟨0, 9, 15, 13⟩, ⟨0, 9, 18, 34⟩] htab (fun z hz => absurd hz List.not_mem_nil) (by decide) (by decide) (hts _ kl_Lw_21) (BW_use hX.1 _ (List.mem_of_getElem? (i := 0) rfl)) hce hcv hcl ?_
  refine lv_astore_n (lv' := [(3, .ref (q9)), (0, .ref (ad 0)), (1, .int (x1)), (2, .ref (oa))]) hx hb d_Lw_retire_12 rfl hl (by decide) rfl (fun ls hl => ?_)
  refine lv_iconst (v := nI 1) hx hb d_Lw_retire_13 (by decide) ?_
  refine W.widen (k := 2) (n := 2054) (Nat.le_of_ble_eq_true rfl) (Nat.le_of_ble_eq_true rfl) ?_
  exact W.zret hx hb hr rfl (fun t ht hW => ⟨⟨nI 1, (ad', x), rfl, ⟨rfl, hnx, fun h => absurd h (by decide)⟩, by show nw D vcl PT ad' (ct1 ad') t.heap ∧ nwo D cy oa _ t.heap; rw [ht]; exact ⟨hB, hO⟩⟩, hS.F ht⟩) hS.2.2 d_Lw_retire_14 hlk
set_option maxRecDepth 100000 in
set_option maxHeartbeats 4000000 in
theorem h_retire_IS (l : Launch) (D : va_G) (cy : Nat → ClassId) (ad : Nat → Nat) (ct : Nat → va_E) (ct1 : (Nat → Nat) → Nat → va_E) (f0 : List Value) (h0 : ct 0 = .inr (4, f0)) (oa : Nat) (x : Int64) (sa : Nat → Nat) (base : Nat) (x1 : Int32) (r : Int64) (hM : mtU l y_Tl_retire b_Tl_retire 2 (some .int) RT D cy [.ref (ad 0), .int x1] ad ct ct1 sa base xIS) : mtH l y_Lw_retire b_Lw_retire 4 h_Lw_retire D cy [.ref (ad 0), .int x1, .ref oa] ad ct ct1 oa x sa base 2 r := by
  intro sz
  refine nh_ofW (cc := b_Lw_retire) (maxL := 4) (ret := some .int) (hh := h_Lw_retire) (own := R_Lw) (by decide) (Nat.le_of_ble_eq_true rfl) rfl ?_
  intro p e s m below meth c ls F hr hlk htab hv hl
  obtain ⟨hx, hb, hml, hown, hts⟩ := id F
  obtain ⟨rfl, ⟨⟨hP, hK, hI⟩, hX, hlo⟩, hO, hoa, hbo, hN⟩ := hv
  have hoN : ∀ {z : Nat}, z ≤ z → ¬ na PT ad s.heap.size oa := fun _ h => h.elim (fun ⟨i, hi, e⟩ => hoa i hi e.symm) (fun h => absurd (hO 0 (by decide)).lt (Nat.not_lt.mpr h))
  have hS : va_S (naH ad oa s.heap.size) s.heap s.heap [] := va_S.rf
  have hl : lv_has ls 4 [(0, .ref (ad 0)), (1, .int (x1)), (2, .ref (oa))] := hl
  refine lv_aload_n hx hb d_Lw_retire_0 rfl (lv_at hl 2 rfl) ?_
  refine lv_iconst (v := nI 0) hx hb d_Lw_retire_1 (by decide) ?_
  refine lv_aload_n hx hb d_Lw_retire_2 rfl (lv_at hl 0 rfl) ?_
  refine lv_iload_n hx hb d_Lw_retire_3 rfl (lv_at hl 1 rfl) ?_
  refine vx_only (vx_runV (As := [.int x1]) (rest := [.int (nI 0), .ref oa]) (b := ad 0) F (hM s.heap.size) ⟨cw_b 1 hts km_Lw_31 k0_Tl kc_Tl_retire kd_Tl_retire ⟨(Nat.le_of_ble_eq_true rfl), (Nat.le_of_ble_eq_true rfl)⟩, hts _ ki_Tl_retire, hts _ ks_Tl_retire⟩ ⟨preX_blind, nw_recv hK.k hP (i := 0) (by decide) h0 rfl, preX_at hK hX hS (fun q _ h => h.elim (fun h => h.elim (fun ⟨i, hi, e⟩ => by rw [e]; exact hlo i hi) (fun h => Nat.le_trans hX.2.2.2.2 h)) (fun e => by rw [e]; exact hbo)) hP hI hlo⟩ rfl rfl hl.1 rfl (lv_room (Nat.le_of_ble_eq_true rfl)) d_Lw_retire_4 ⟨(Nat.le_of_ble_eq_true rfl), (Nat.le_of_ble_eq_true rfl)⟩) hS (fun q h => Or.inl h) (fun q _ h => Or.inl h) (fun E' ce q9 ad' t H1 locs1 ht hvm hnx hB hz hk hS hce hcv hcl => ?_)
  obtain ⟨hE, hB⟩ : E' = xIS ∧ nw D vcl PT ad' (ct1 ad') t.heap := hB
  subst hE
  rw [ht] at hB
  have hO := nwo_keep hO hk (hoN (Nat.le_refl 0))
  have hpass : ∀ z ∈ ([⟨0, 9, 12, 21⟩] : List ExceptionTableEntry), covers z 4 = false ∨ (z.catchType ≠ 0 ∧ ∃ nm : String, (Cond.classLink R_Lw z.catchType nm).before ([.ref (ad 0), .int x1, .ref oa] : List Value).toArray s = true ∧ va_Nc xIS nm s) := by
    intro z hz
    simp only [List.mem_cons, List.not_mem_nil, or_false] at hz
    subst hz
    · exact Or.inr ⟨by decide, _, hts _ kl_Lw_21, hN _ (List.mem_of_getElem? (i := 0) rfl)⟩
  refine vx_catch (own := R_Lw) (name := xIS) hown [⟨0, 9, 12, 21⟩] ⟨0, 9, 15, 13⟩ [⟨0, 9, 18, 34⟩] htab hpass (by decide) (by decide) (hts _ kl_Lw_13) (BW_use hX.1 _ (List.mem_of_getElem? (i := 1) rfl)) hce hcv hcl ?_
  refine lv_astore_n (lv' := [(3, .ref (q9)), (0, .ref (ad 0)), (1, .int (x1)), (2, .ref (oa))]) hx hb d_Lw_retire_15 rfl hl (by decide) rfl (fun ls hl => ?_)
  refine lv_iconst (v := nI 2) hx hb d_Lw_retire_16 (by decide) ?_
  refine W.widen (k := 2) (n := 2054) (Nat.le_of_ble_eq_true rfl) (Nat.le_of_ble_eq_true rfl) ?_
  exact W.zret hx hb hr rfl (fun t ht hW => ⟨⟨nI 2, (ad', x), rfl, ⟨rfl, hnx, fun h => absurd h (by decide)⟩, by show nw D vcl PT ad' (ct1 ad') t.heap ∧ nwo D cy oa _ t.heap; rw [ht]; exact ⟨hB, hO⟩⟩, hS.F ht⟩) hS.2.2 d_Lw_retire_17 hlk
set_option maxRecDepth 100000 in
set_option maxHeartbeats 4000000 in
theorem h_retire_NE (l : Launch) (D : va_G) (cy : Nat → ClassId) (ad : Nat → Nat) (ct : Nat → va_E) (ct1 : (Nat → Nat) → Nat → va_E) (f0 : List Value) (h0 : ct 0 = .inr (4, f0)) (oa : Nat) (x : Int64) (sa : Nat → Nat) (base : Nat) (x1 : Int32) (r : Int64) (hM : mtU l y_Tl_retire b_Tl_retire 2 (some .int) RT D cy [.ref (ad 0), .int x1] ad ct ct1 sa base xNE) : mtH l y_Lw_retire b_Lw_retire 4 h_Lw_retire D cy [.ref (ad 0), .int x1, .ref oa] ad ct ct1 oa x sa base 3 r := by
  intro sz
  refine nh_ofW (cc := b_Lw_retire) (maxL := 4) (ret := some .int) (hh := h_Lw_retire) (own := R_Lw) (by decide) (Nat.le_of_ble_eq_true rfl) rfl ?_
  intro p e s m below meth c ls F hr hlk htab hv hl
  obtain ⟨hx, hb, hml, hown, hts⟩ := id F
  obtain ⟨rfl, ⟨⟨hP, hK, hI⟩, hX, hlo⟩, hO, hoa, hbo, hN⟩ := hv
  have hoN : ∀ {z : Nat}, z ≤ z → ¬ na PT ad s.heap.size oa := fun _ h => h.elim (fun ⟨i, hi, e⟩ => hoa i hi e.symm) (fun h => absurd (hO 0 (by decide)).lt (Nat.not_lt.mpr h))
  have hS : va_S (naH ad oa s.heap.size) s.heap s.heap [] := va_S.rf
  have hl : lv_has ls 4 [(0, .ref (ad 0)), (1, .int (x1)), (2, .ref (oa))] := hl
  refine lv_aload_n hx hb d_Lw_retire_0 rfl (lv_at hl 2 rfl) ?_
  refine lv_iconst (v := nI 0) hx hb d_Lw_retire_1 (by decide) ?_
  refine lv_aload_n hx hb d_Lw_retire_2 rfl (lv_at hl 0 rfl) ?_
  refine lv_iload_n hx hb d_Lw_retire_3 rfl (lv_at hl 1 rfl) ?_
  refine vx_only (vx_runV (As := [.int x1]) (rest := [.int (nI 0), .ref oa]) (b := ad 0) F (hM s.heap.size) ⟨cw_b 1 hts km_Lw_31 k0_Tl kc_Tl_retire kd_Tl_retire ⟨(Nat.le_of_ble_eq_true rfl), (Nat.le_of_ble_eq_true rfl)⟩, hts _ ki_Tl_retire, hts _ ks_Tl_retire⟩ ⟨preX_blind, nw_recv hK.k hP (i := 0) (by decide) h0 rfl, preX_at hK hX hS (fun q _ h => h.elim (fun h => h.elim (fun ⟨i, hi, e⟩ => by rw [e]; exact hlo i hi) (fun h => Nat.le_trans hX.2.2.2.2 h)) (fun e => by rw [e]; exact hbo)) hP hI hlo⟩ rfl rfl hl.1 rfl (lv_room (Nat.le_of_ble_eq_true rfl)) d_Lw_retire_4 ⟨(Nat.le_of_ble_eq_true rfl), (Nat.le_of_ble_eq_true rfl)⟩) hS (fun q h => Or.inl h) (fun q _ h => Or.inl h) (fun E' ce q9 ad' t H1 locs1 ht hvm hnx hB hz hk hS hce hcv hcl => ?_)
  obtain ⟨hE, hB⟩ : E' = xNE ∧ nw D vcl PT ad' (ct1 ad') t.heap := hB
  subst hE
  rw [ht] at hB
  have hO := nwo_keep hO hk (hoN (Nat.le_refl 0))
  have hpass : ∀ z ∈ ([⟨0, 9, 12, 21⟩, ⟨0, 9, 15, 13⟩] : List ExceptionTableEntry), covers z 4 = false ∨ (z.catchType ≠ 0 ∧ ∃ nm : String, (Cond.classLink R_Lw z.catchType nm).before ([.ref (ad 0), .int x1, .ref oa] : List Value).toArray s = true ∧ va_Nc xNE nm s) := by
    intro z hz
    simp only [List.mem_cons, List.not_mem_nil, or_false] at hz
    rcases hz with rfl | rfl
    · exact Or.inr ⟨by decide, _, hts _ kl_Lw_21, hN _ (List.mem_of_getElem? (i := 3) rfl)⟩
    · exact Or.inr ⟨by decide, _, hts _ kl_Lw_13, hN _ (List.mem_of_getElem? (i := 4) rfl)⟩
  refine vx_catch (own := R_Lw) (name := xNE) hown [⟨0, 9, 12, 21⟩, ⟨0, 9, 15, 13⟩] ⟨0, 9, 18, 34⟩ [] htab hpass (by decide) (by decide) (hts _ kl_Lw_34) (BW_use hX.1 _ (List.mem_of_getElem? (i := 3) rfl)) hce hcv hcl ?_
  refine lv_astore_n (lv' := [(3, .ref (q9)), (0, .ref (ad 0)), (1, .int (x1)), (2, .ref (oa))]) hx hb d_Lw_retire_18 rfl hl (by decide) rfl (fun ls hl => ?_)
  refine lv_iconst (v := nI 3) hx hb d_Lw_retire_19 (by decide) ?_
  refine W.widen (k := 2) (n := 2054) (Nat.le_of_ble_eq_true rfl) (Nat.le_of_ble_eq_true rfl) ?_
  exact W.zret hx hb hr rfl (fun t ht hW => ⟨⟨nI 3, (ad', x), rfl, ⟨rfl, hnx, fun h => absurd h (by decide)⟩, by show nw D vcl PT ad' (ct1 ad') t.heap ∧ nwo D cy oa _ t.heap; rw [ht]; exact ⟨hB, hO⟩⟩, hS.F ht⟩) hS.2.2 d_Lw_retire_20 hlk
set_option maxRecDepth 100000 in
set_option maxHeartbeats 4000000 in
theorem h_cut_ok (l : Launch) (D : va_G) (cy : Nat → ClassId) (ad : Nat → Nat) (ct : Nat → va_E) (ct1 : (Nat → Nat) → Nat → va_E) (f0 : List Value) (h0 : ct 0 = .inr (4, f0)) (oa : Nat) (x : Int64) (sa : Nat → Nat) (base : Nat) (x1 x2 : Int32) (r : Int32) (hM : mtX l y_Tl_cut b_Tl_cut 4 (some .int) RT D cy [.ref (ad 0), .int x1, .int x2] ad ct ct1 r) : mtH l y_Lw_cut b_Lw_cut 5 h_Lw_cut D cy [.ref (ad 0), .int x1, .int x2, .ref oa] ad ct ct1 oa x sa base 0 r.toInt64 := by
  intro sz
  refine nh_ofW (cc := b_Lw_cut) (maxL := 5) (ret := some .int) (hh := h_Lw_cut) (own := R_Lw) (by decide) (Nat.le_of_ble_eq_true rfl) rfl ?_
  intro p e s m below meth c ls F hr hlk htab hv hl
  obtain ⟨hx, hb, hml, hown, hts⟩ := id F
  obtain ⟨rfl, ⟨⟨hP, hK, hI⟩, hX, hlo⟩, hO, hoa, hbo, hN⟩ := hv
  have hoN : ∀ {z : Nat}, z ≤ z → ¬ na PT ad s.heap.size oa := fun _ h => h.elim (fun ⟨i, hi, e⟩ => hoa i hi e.symm) (fun h => absurd (hO 0 (by decide)).lt (Nat.not_lt.mpr h))
  have hS : va_S (naH ad oa s.heap.size) s.heap s.heap [] := va_S.rf
  have hl : lv_has ls 5 [(0, .ref (ad 0)), (1, .int (x1)), (2, .int (x2)), (3, .ref (oa))] := hl
  refine lv_aload_n hx hb d_Lw_cut_0 rfl (lv_at hl 3 rfl) ?_
  refine lv_iconst (v := nI 0) hx hb d_Lw_cut_1 (by decide) ?_
  refine lv_aload_n hx hb d_Lw_cut_2 rfl (lv_at hl 0 rfl) ?_
  refine lv_iload_n hx hb d_Lw_cut_3 rfl (lv_at hl 1 rfl) ?_
  refine lv_iload_n hx hb d_Lw_cut_4 rfl (lv_at hl 2 rfl) ?_
  refine va_calli (va_runV (As := [.int x1, .int x2]) (rest := [.int (nI 0), .ref oa]) (b := ad 0) F (hM s.heap.size) ⟨cw_b 2 hts km_Lw_36 k0_Tl kc_Tl_cut kd_Tl_cut ⟨(Nat.le_of_ble_eq_true rfl), (Nat.le_of_ble_eq_true rfl)⟩, hts _ ki_Tl_cut, hts _ ks_Tl_cut⟩ ⟨pre0_blind, nw_recv hK.k hP (i := 0) (by decide) h0 rfl, pre0_at hK hP hI⟩ rfl rfl hl.1 rfl (lv_room (Nat.le_of_ble_eq_true rfl)) d_Lw_cut_5 ⟨(Nat.le_of_ble_eq_true rfl), (Nat.le_of_ble_eq_true rfl)⟩) hS (fun q _ h => Or.inl h) (fun q h => Or.inl h) (fun r' ad' t H1 locs1 ht hvm hw hB hz hk hS => ?_)
  obtain ⟨rfl, hnx⟩ := hw
  have hB : nw D vcl PT ad' (ct1 ad') t.heap := hB
  rw [ht] at hB
  have hO := nwo_keep hO hk (hoN (Nat.le_refl 0))
  have hda : ∀ i, PT i → ad' i ≠ oa := fun i hi h => (hnx.2.1 i hi).elim (fun e => hoa i hi (e.symm.trans h)) (fun z => hoN (Nat.le_refl 0) (Or.inr (by rw [← h]; exact z)))
  refine lv_i2l hx hb d_Lw_cut_8 rfl ?_
  refine nwo_last (y := r'.toInt64) hx hb hK hO (Or.inr rfl) hS d_Lw_cut_9 (fun H2 locs2 hO hS hz2 hq2 => ?_)
  have hB : nw D vcl PT ad' (ct1 ad') H2 := nw_keep hB (A := fun q => q = oa) (fun q _ h => hq2 q h) hda
  refine lv_goto (tgt := 17) hx hb d_Lw_cut_10 (by decide) ?_
  refine lv_iconst (v := nI 0) hx hb d_Lw_cut_17 (by decide) ?_
  refine W.widen (k := 2) (n := 2054) (Nat.le_of_ble_eq_true rfl) (Nat.le_of_ble_eq_true rfl) ?_
  exact W.zret hx hb hr rfl (fun t ht hW => ⟨⟨nI 0, (ad', r'.toInt64), rfl, ⟨rfl, hnx, fun _ => rfl⟩, by show nw D vcl PT ad' (ct1 ad') t.heap ∧ nwo D cy oa _ t.heap; rw [ht]; exact ⟨hB, hO⟩⟩, hS.F ht⟩) hS.2.2 d_Lw_cut_18 hlk
set_option maxRecDepth 100000 in
set_option maxHeartbeats 4000000 in
theorem h_cut_IA (l : Launch) (D : va_G) (cy : Nat → ClassId) (ad : Nat → Nat) (ct : Nat → va_E) (ct1 : (Nat → Nat) → Nat → va_E) (f0 : List Value) (h0 : ct 0 = .inr (4, f0)) (oa : Nat) (x : Int64) (sa : Nat → Nat) (base : Nat) (x1 x2 : Int32) (r : Int64) (hM : mtU l y_Tl_cut b_Tl_cut 4 (some .int) RT D cy [.ref (ad 0), .int x1, .int x2] ad ct ct1 sa base xIA) : mtH l y_Lw_cut b_Lw_cut 5 h_Lw_cut D cy [.ref (ad 0), .int x1, .int x2, .ref oa] ad ct ct1 oa x sa base 1 r := by
  intro sz
  refine nh_ofW (cc := b_Lw_cut) (maxL := 5) (ret := some .int) (hh := h_Lw_cut) (own := R_Lw) (by decide) (Nat.le_of_ble_eq_true rfl) rfl ?_
  intro p e s m below meth c ls F hr hlk htab hv hl
  obtain ⟨hx, hb, hml, hown, hts⟩ := id F
  obtain ⟨rfl, ⟨⟨hP, hK, hI⟩, hX, hlo⟩, hO, hoa, hbo, hN⟩ := hv
  have hoN : ∀ {z : Nat}, z ≤ z → ¬ na PT ad s.heap.size oa := fun _ h => h.elim (fun ⟨i, hi, e⟩ => hoa i hi e.symm) (fun h => absurd (hO 0 (by decide)).lt (Nat.not_lt.mpr h))
  have hS : va_S (naH ad oa s.heap.size) s.heap s.heap [] := va_S.rf
  have hl : lv_has ls 5 [(0, .ref (ad 0)), (1, .int (x1)), (2, .int (x2)), (3, .ref (oa))] := hl
  refine lv_aload_n hx hb d_Lw_cut_0 rfl (lv_at hl 3 rfl) ?_
  refine lv_iconst (v := nI 0) hx hb d_Lw_cut_1 (by decide) ?_
  refine lv_aload_n hx hb d_Lw_cut_2 rfl (lv_at hl 0 rfl) ?_
  refine lv_iload_n hx hb d_Lw_cut_3 rfl (lv_at hl 1 rfl) ?_
  refine lv_iload_n hx hb d_Lw_cut_4 rfl (lv_at hl 2 rfl) ?_
  refine vx_only (vx_runV (As := [.int x1, .int x2]) (rest := [.int (nI 0), .ref oa]) (b := ad 0) F (hM s.heap.size) ⟨cw_b 2 hts km_Lw_36 k0_Tl kc_Tl_cut kd_Tl_cut ⟨(Nat.le_of_ble_eq_true rfl), (Nat.le_of_ble_eq_true rfl)⟩, hts _ ki_Tl_cut, hts _ ks_Tl_cut⟩ ⟨preX_blind, nw_recv hK.k hP (i := 0) (by decide) h0 rfl, preX_at hK hX hS (fun q _ h => h.elim (fun h => h.elim (fun ⟨i, hi, e⟩ => by rw [e]; exact hlo i hi) (fun h => Nat.le_trans hX.2.2.2.2 h)) (fun e => by rw [e]; exact hbo)) hP hI hlo⟩ rfl rfl hl.1 rfl (lv_room (Nat.le_of_ble_eq_true rfl)) d_Lw_cut_5 ⟨(Nat.le_of_ble_eq_true rfl), (Nat.le_of_ble_eq_true rfl)⟩) hS (fun q h => Or.inl h) (fun q _ h => Or.inl h) (fun E' ce q9 ad' t H1 locs1 ht hvm hnx hB hz hk hS hce hcv hcl => ?_)
  obtain ⟨hE, hB⟩ : E' = xIA ∧ nw D vcl PT ad' (ct1 ad') t.heap := hB
  subst hE
  rw [ht] at hB
  have hO := nwo_keep hO hk (hoN (Nat.le_refl 0))
  refine vx_catch (own := R_Lw) (name := xIA) hown [] ⟨0, 10, 13, 21⟩ [] htab (fun z hz => absurd hz List.not_mem_nil) (by decide) (by decide) (hts _ kl_Lw_21) (BW_use hX.1 _ (List.mem_of_getElem? (i := 0) rfl)) hce hcv hcl ?_
  refine lv_astore (lv' := [(4, .ref (q9)), (0, .ref (ad 0)), (1, .int (x1)), (2, .int (x2)), (3, .ref (oa))]) hx hb d_Lw_cut_13 hl (by decide) rfl (fun ls hl => ?_)
  refine lv_iconst (v := nI 1) hx hb d_Lw_cut_15 (by decide) ?_
  refine W.widen (k := 2) (n := 2054) (Nat.le_of_ble_eq_true rfl) (Nat.le_of_ble_eq_true rfl) ?_
  exact W.zret hx hb hr rfl (fun t ht hW => ⟨⟨nI 1, (ad', x), rfl, ⟨rfl, hnx, fun h => absurd h (by decide)⟩, by show nw D vcl PT ad' (ct1 ad') t.heap ∧ nwo D cy oa _ t.heap; rw [ht]; exact ⟨hB, hO⟩⟩, hS.F ht⟩) hS.2.2 d_Lw_cut_16 hlk
set_option maxRecDepth 100000 in
set_option maxHeartbeats 4000000 in
theorem h_record_ok (l : Launch) (D : va_G) (cy : Nat → ClassId) (ad : Nat → Nat) (ct : Nat → va_E) (ct1 : (Nat → Nat) → Nat → va_E) (f0 : List Value) (h0 : ct 0 = .inr (4, f0)) (oa : Nat) (x : Int64) (sa : Nat → Nat) (base : Nat) (x1 x2 : Int32) (r : Int32) (hM : mtX l y_Tl_record b_Tl_record 4 (some .int) RT D cy [.ref (ad 0), .int x1, .int x2] ad ct ct1 r) : mtH l y_Lw_record b_Lw_record 5 h_Lw_record D cy [.ref (ad 0), .int x1, .int x2, .ref oa] ad ct ct1 oa x sa base 0 r.toInt64 := by
  intro sz
  refine nh_ofW (cc := b_Lw_record) (maxL := 5) (ret := some .int) (hh := h_Lw_record) (own := R_Lw) (by decide) (Nat.le_of_ble_eq_true rfl) rfl ?_
  intro p e s m below meth c ls F hr hlk htab hv hl
  obtain ⟨hx, hb, hml, hown, hts⟩ := id F
  obtain ⟨rfl, ⟨⟨hP, hK, hI⟩, hX, hlo⟩, hO, hoa, hbo, hN⟩ := hv
  have hoN : ∀ {z : Nat}, z ≤ z → ¬ na PT ad s.heap.size oa := fun _ h => h.elim (fun ⟨i, hi, e⟩ => hoa i hi e.symm) (fun h => absurd (hO 0 (by decide)).lt (Nat.not_lt.mpr h))
  have hS : va_S (naH ad oa s.heap.size) s.heap s.heap [] := va_S.rf
  have hl : lv_has ls 5 [(0, .ref (ad 0)), (1, .int (x1)), (2, .int (x2)), (3, .ref (oa))] := hl
  refine lv_aload_n hx hb d_Lw_record_0 rfl (lv_at hl 3 rfl) ?_
  refine lv_iconst (v := nI 0) hx hb d_Lw_record_1 (by decide) ?_
  refine lv_aload_n hx hb d_Lw_record_2 rfl (lv_at hl 0 rfl) ?_
  refine lv_iload_n hx hb d_Lw_record_3 rfl (lv_at hl 1 rfl) ?_
  refine lv_iload_n hx hb d_Lw_record_4 rfl (lv_at hl 2 rfl) ?_
  refine va_calli (va_runV (As := [.int x1, .int x2]) (rest := [.int (nI 0), .ref oa]) (b := ad 0) F (hM s.heap.size) ⟨cw_b 2 hts km_Lw_39 k0_Tl kc_Tl_record kd_Tl_record ⟨(Nat.le_of_ble_eq_true rfl), (Nat.le_of_ble_eq_true rfl)⟩, hts _ ki_Tl_record, hts _ ks_Tl_record⟩ ⟨pre0_blind, nw_recv hK.k hP (i := 0) (by decide) h0 rfl, pre0_at hK hP hI⟩ rfl rfl hl.1 rfl (lv_room (Nat.le_of_ble_eq_true rfl)) d_Lw_record_5 ⟨(Nat.le_of_ble_eq_true rfl), (Nat.le_of_ble_eq_true rfl)⟩) hS (fun q _ h => Or.inl h) (fun q h => Or.inl h) (fun r' ad' t H1 locs1 ht hvm hw hB hz hk hS => ?_)
  obtain ⟨rfl, hnx⟩ := hw
  have hB : nw D vcl PT ad' (ct1 ad') t.heap := hB
  rw [ht] at hB
  have hO := nwo_keep hO hk (hoN (Nat.le_refl 0))
  have hda : ∀ i, PT i → ad' i ≠ oa := fun i hi h => (hnx.2.1 i hi).elim (fun e => hoa i hi (e.symm.trans h)) (fun z => hoN (Nat.le_refl 0) (Or.inr (by rw [← h]; exact z)))
  refine lv_i2l hx hb d_Lw_record_8 rfl ?_
  refine nwo_last (y := r'.toInt64) hx hb hK hO (Or.inr rfl) hS d_Lw_record_9 (fun H2 locs2 hO hS hz2 hq2 => ?_)
  have hB : nw D vcl PT ad' (ct1 ad') H2 := nw_keep hB (A := fun q => q = oa) (fun q _ h => hq2 q h) hda
  refine lv_goto (tgt := 25) hx hb d_Lw_record_10 (by decide) ?_
  refine lv_iconst (v := nI 0) hx hb d_Lw_record_25 (by decide) ?_
  refine W.widen (k := 2) (n := 2054) (Nat.le_of_ble_eq_true rfl) (Nat.le_of_ble_eq_true rfl) ?_
  exact W.zret hx hb hr rfl (fun t ht hW => ⟨⟨nI 0, (ad', r'.toInt64), rfl, ⟨rfl, hnx, fun _ => rfl⟩, by show nw D vcl PT ad' (ct1 ad') t.heap ∧ nwo D cy oa _ t.heap; rw [ht]; exact ⟨hB, hO⟩⟩, hS.F ht⟩) hS.2.2 d_Lw_record_26 hlk
set_option maxRecDepth 100000 in
set_option maxHeartbeats 4000000 in
theorem h_record_IA (l : Launch) (D : va_G) (cy : Nat → ClassId) (ad : Nat → Nat) (ct : Nat → va_E) (ct1 : (Nat → Nat) → Nat → va_E) (f0 : List Value) (h0 : ct 0 = .inr (4, f0)) (oa : Nat) (x : Int64) (sa : Nat → Nat) (base : Nat) (x1 x2 : Int32) (r : Int64) (hM : mtU l y_Tl_record b_Tl_record 4 (some .int) RT D cy [.ref (ad 0), .int x1, .int x2] ad ct ct1 sa base xIA) : mtH l y_Lw_record b_Lw_record 5 h_Lw_record D cy [.ref (ad 0), .int x1, .int x2, .ref oa] ad ct ct1 oa x sa base 1 r := by
  intro sz
  refine nh_ofW (cc := b_Lw_record) (maxL := 5) (ret := some .int) (hh := h_Lw_record) (own := R_Lw) (by decide) (Nat.le_of_ble_eq_true rfl) rfl ?_
  intro p e s m below meth c ls F hr hlk htab hv hl
  obtain ⟨hx, hb, hml, hown, hts⟩ := id F
  obtain ⟨rfl, ⟨⟨hP, hK, hI⟩, hX, hlo⟩, hO, hoa, hbo, hN⟩ := hv
  have hoN : ∀ {z : Nat}, z ≤ z → ¬ na PT ad s.heap.size oa := fun _ h => h.elim (fun ⟨i, hi, e⟩ => hoa i hi e.symm) (fun h => absurd (hO 0 (by decide)).lt (Nat.not_lt.mpr h))
  have hS : va_S (naH ad oa s.heap.size) s.heap s.heap [] := va_S.rf
  have hl : lv_has ls 5 [(0, .ref (ad 0)), (1, .int (x1)), (2, .int (x2)), (3, .ref (oa))] := hl
  refine lv_aload_n hx hb d_Lw_record_0 rfl (lv_at hl 3 rfl) ?_
  refine lv_iconst (v := nI 0) hx hb d_Lw_record_1 (by decide) ?_
  refine lv_aload_n hx hb d_Lw_record_2 rfl (lv_at hl 0 rfl) ?_
  refine lv_iload_n hx hb d_Lw_record_3 rfl (lv_at hl 1 rfl) ?_
  refine lv_iload_n hx hb d_Lw_record_4 rfl (lv_at hl 2 rfl) ?_
  refine vx_only (vx_runV (As := [.int x1, .int x2]) (rest := [.int (nI 0), .ref oa]) (b := ad 0) F (hM s.heap.size) ⟨cw_b 2 hts km_Lw_39 k0_Tl kc_Tl_record kd_Tl_record ⟨(Nat.le_of_ble_eq_true rfl), (Nat.le_of_ble_eq_true rfl)⟩, hts _ ki_Tl_record, hts _ ks_Tl_record⟩ ⟨preX_blind, nw_recv hK.k hP (i := 0) (by decide) h0 rfl, preX_at hK hX hS (fun q _ h => h.elim (fun h => h.elim (fun ⟨i, hi, e⟩ => by rw [e]; exact hlo i hi) (fun h => Nat.le_trans hX.2.2.2.2 h)) (fun e => by rw [e]; exact hbo)) hP hI hlo⟩ rfl rfl hl.1 rfl (lv_room (Nat.le_of_ble_eq_true rfl)) d_Lw_record_5 ⟨(Nat.le_of_ble_eq_true rfl), (Nat.le_of_ble_eq_true rfl)⟩) hS (fun q h => Or.inl h) (fun q _ h => Or.inl h) (fun E' ce q9 ad' t H1 locs1 ht hvm hnx hB hz hk hS hce hcv hcl => ?_)
  obtain ⟨hE, hB⟩ : E' = xIA ∧ nw D vcl PT ad' (ct1 ad') t.heap := hB
  subst hE
  rw [ht] at hB
  have hO := nwo_keep hO hk (hoN (Nat.le_refl 0))
  refine vx_catch (own := R_Lw) (name := xIA) hown [] ⟨0, 10, 13, 21⟩ [⟨0, 10, 17, 13⟩, ⟨0, 10, 21, 34⟩] htab (fun z hz => absurd hz List.not_mem_nil) (by decide) (by decide) (hts _ kl_Lw_21) (BW_use hX.1 _ (List.mem_of_getElem? (i := 0) rfl)) hce hcv hcl ?_
  refine lv_astore (lv' := [(4, .ref (q9)), (0, .ref (ad 0)), (1, .int (x1)), (2, .int (x2)), (3, .ref (oa))]) hx hb d_Lw_record_13 hl (by decide) rfl (fun ls hl => ?_)
  refine lv_iconst (v := nI 1) hx hb d_Lw_record_15 (by decide) ?_
  refine W.widen (k := 2) (n := 2054) (Nat.le_of_ble_eq_true rfl) (Nat.le_of_ble_eq_true rfl) ?_
  exact W.zret hx hb hr rfl (fun t ht hW => ⟨⟨nI 1, (ad', x), rfl, ⟨rfl, hnx, fun h => absurd h (by decide)⟩, by show nw D vcl PT ad' (ct1 ad') t.heap ∧ nwo D cy oa _ t.heap; rw [ht]; exact ⟨hB, hO⟩⟩, hS.F ht⟩) hS.2.2 d_Lw_record_16 hlk
set_option maxRecDepth 100000 in
set_option maxHeartbeats 4000000 in
theorem h_record_IS (l : Launch) (D : va_G) (cy : Nat → ClassId) (ad : Nat → Nat) (ct : Nat → va_E) (ct1 : (Nat → Nat) → Nat → va_E) (f0 : List Value) (h0 : ct 0 = .inr (4, f0)) (oa : Nat) (x : Int64) (sa : Nat → Nat) (base : Nat) (x1 x2 : Int32) (r : Int64) (hM : mtU l y_Tl_record b_Tl_record 4 (some .int) RT D cy [.ref (ad 0), .int x1, .int x2] ad ct ct1 sa base xIS) : mtH l y_Lw_record b_Lw_record 5 h_Lw_record D cy [.ref (ad 0), .int x1, .int x2, .ref oa] ad ct ct1 oa x sa base 2 r := by
  intro sz
  refine nh_ofW (cc := b_Lw_record) (maxL := 5) (ret := some .int) (hh := h_Lw_record) (own := R_Lw) (by decide) (Nat.le_of_ble_eq_true rfl) rfl ?_
  intro p e s m below meth c ls F hr hlk htab hv hl
  obtain ⟨hx, hb, hml, hown, hts⟩ := id F
  obtain ⟨rfl, ⟨⟨hP, hK, hI⟩, hX, hlo⟩, hO, hoa, hbo, hN⟩ := hv
  have hoN : ∀ {z : Nat}, z ≤ z → ¬ na PT ad s.heap.size oa := fun _ h => h.elim (fun ⟨i, hi, e⟩ => hoa i hi e.symm) (fun h => absurd (hO 0 (by decide)).lt (Nat.not_lt.mpr h))
  have hS : va_S (naH ad oa s.heap.size) s.heap s.heap [] := va_S.rf
  have hl : lv_has ls 5 [(0, .ref (ad 0)), (1, .int (x1)), (2, .int (x2)), (3, .ref (oa))] := hl
  refine lv_aload_n hx hb d_Lw_record_0 rfl (lv_at hl 3 rfl) ?_
  refine lv_iconst (v := nI 0) hx hb d_Lw_record_1 (by decide) ?_
  refine lv_aload_n hx hb d_Lw_record_2 rfl (lv_at hl 0 rfl) ?_
  refine lv_iload_n hx hb d_Lw_record_3 rfl (lv_at hl 1 rfl) ?_
  refine lv_iload_n hx hb d_Lw_record_4 rfl (lv_at hl 2 rfl) ?_
  refine vx_only (vx_runV (As := [.int x1, .int x2]) (rest := [.int (nI 0), .ref oa]) (b := ad 0) F (hM s.heap.size) ⟨cw_b 2 hts km_Lw_39 k0_Tl kc_Tl_record kd_Tl_record ⟨(Nat.le_of_ble_eq_true rfl), (Nat.le_of_ble_eq_true rfl)⟩, hts _ ki_Tl_record, hts _ ks_Tl_record⟩ ⟨preX_blind, nw_recv hK.k hP (i := 0) (by decide) h0 rfl, preX_at hK hX hS (fun q _ h => h.elim (fun h => h.elim (fun ⟨i, hi, e⟩ => by rw [e]; exact hlo i hi) (fun h => Nat.le_trans hX.2.2.2.2 h)) (fun e => by rw [e]; exact hbo)) hP hI hlo⟩ rfl rfl hl.1 rfl (lv_room (Nat.le_of_ble_eq_true rfl)) d_Lw_record_5 ⟨(Nat.le_of_ble_eq_true rfl), (Nat.le_of_ble_eq_true rfl)⟩) hS (fun q h => Or.inl h) (fun q _ h => Or.inl h) (fun E' ce q9 ad' t H1 locs1 ht hvm hnx hB hz hk hS hce hcv hcl => ?_)
  obtain ⟨hE, hB⟩ : E' = xIS ∧ nw D vcl PT ad' (ct1 ad') t.heap := hB
  subst hE
  rw [ht] at hB
  have hO := nwo_keep hO hk (hoN (Nat.le_refl 0))
  have hpass : ∀ z ∈ ([⟨0, 10, 13, 21⟩] : List ExceptionTableEntry), covers z 5 = false ∨ (z.catchType ≠ 0 ∧ ∃ nm : String, (Cond.classLink R_Lw z.catchType nm).before ([.ref (ad 0), .int x1, .int x2, .ref oa] : List Value).toArray s = true ∧ va_Nc xIS nm s) := by
    intro z hz
    simp only [List.mem_cons, List.not_mem_nil, or_false] at hz
    subst hz
    · exact Or.inr ⟨by decide, _, hts _ kl_Lw_21, hN _ (List.mem_of_getElem? (i := 0) rfl)⟩
  refine vx_catch (own := R_Lw) (name := xIS) hown [⟨0, 10, 13, 21⟩] ⟨0, 10, 17, 13⟩ [⟨0, 10, 21, 34⟩] htab hpass (by decide) (by decide) (hts _ kl_Lw_13) (BW_use hX.1 _ (List.mem_of_getElem? (i := 1) rfl)) hce hcv hcl ?_
  refine lv_astore (lv' := [(4, .ref (q9)), (0, .ref (ad 0)), (1, .int (x1)), (2, .int (x2)), (3, .ref (oa))]) hx hb d_Lw_record_17 hl (by decide) rfl (fun ls hl => ?_)
  refine lv_iconst (v := nI 2) hx hb d_Lw_record_19 (by decide) ?_
  refine W.widen (k := 2) (n := 2054) (Nat.le_of_ble_eq_true rfl) (Nat.le_of_ble_eq_true rfl) ?_
  exact W.zret hx hb hr rfl (fun t ht hW => ⟨⟨nI 2, (ad', x), rfl, ⟨rfl, hnx, fun h => absurd h (by decide)⟩, by show nw D vcl PT ad' (ct1 ad') t.heap ∧ nwo D cy oa _ t.heap; rw [ht]; exact ⟨hB, hO⟩⟩, hS.F ht⟩) hS.2.2 d_Lw_record_20 hlk
set_option maxRecDepth 100000 in
set_option maxHeartbeats 4000000 in
theorem h_record_NE (l : Launch) (D : va_G) (cy : Nat → ClassId) (ad : Nat → Nat) (ct : Nat → va_E) (ct1 : (Nat → Nat) → Nat → va_E) (f0 : List Value) (h0 : ct 0 = .inr (4, f0)) (oa : Nat) (x : Int64) (sa : Nat → Nat) (base : Nat) (x1 x2 : Int32) (r : Int64) (hM : mtU l y_Tl_record b_Tl_record 4 (some .int) RT D cy [.ref (ad 0), .int x1, .int x2] ad ct ct1 sa base xNE) : mtH l y_Lw_record b_Lw_record 5 h_Lw_record D cy [.ref (ad 0), .int x1, .int x2, .ref oa] ad ct ct1 oa x sa base 3 r := by
  intro sz
  refine nh_ofW (cc := b_Lw_record) (maxL := 5) (ret := some .int) (hh := h_Lw_record) (own := R_Lw) (by decide) (Nat.le_of_ble_eq_true rfl) rfl ?_
  intro p e s m below meth c ls F hr hlk htab hv hl
  obtain ⟨hx, hb, hml, hown, hts⟩ := id F
  obtain ⟨rfl, ⟨⟨hP, hK, hI⟩, hX, hlo⟩, hO, hoa, hbo, hN⟩ := hv
  have hoN : ∀ {z : Nat}, z ≤ z → ¬ na PT ad s.heap.size oa := fun _ h => h.elim (fun ⟨i, hi, e⟩ => hoa i hi e.symm) (fun h => absurd (hO 0 (by decide)).lt (Nat.not_lt.mpr h))
  have hS : va_S (naH ad oa s.heap.size) s.heap s.heap [] := va_S.rf
  have hl : lv_has ls 5 [(0, .ref (ad 0)), (1, .int (x1)), (2, .int (x2)), (3, .ref (oa))] := hl
  refine lv_aload_n hx hb d_Lw_record_0 rfl (lv_at hl 3 rfl) ?_
  refine lv_iconst (v := nI 0) hx hb d_Lw_record_1 (by decide) ?_
  refine lv_aload_n hx hb d_Lw_record_2 rfl (lv_at hl 0 rfl) ?_
  refine lv_iload_n hx hb d_Lw_record_3 rfl (lv_at hl 1 rfl) ?_
  refine lv_iload_n hx hb d_Lw_record_4 rfl (lv_at hl 2 rfl) ?_
  refine vx_only (vx_runV (As := [.int x1, .int x2]) (rest := [.int (nI 0), .ref oa]) (b := ad 0) F (hM s.heap.size) ⟨cw_b 2 hts km_Lw_39 k0_Tl kc_Tl_record kd_Tl_record ⟨(Nat.le_of_ble_eq_true rfl), (Nat.le_of_ble_eq_true rfl)⟩, hts _ ki_Tl_record, hts _ ks_Tl_record⟩ ⟨preX_blind, nw_recv hK.k hP (i := 0) (by decide) h0 rfl, preX_at hK hX hS (fun q _ h => h.elim (fun h => h.elim (fun ⟨i, hi, e⟩ => by rw [e]; exact hlo i hi) (fun h => Nat.le_trans hX.2.2.2.2 h)) (fun e => by rw [e]; exact hbo)) hP hI hlo⟩ rfl rfl hl.1 rfl (lv_room (Nat.le_of_ble_eq_true rfl)) d_Lw_record_5 ⟨(Nat.le_of_ble_eq_true rfl), (Nat.le_of_ble_eq_true rfl)⟩) hS (fun q h => Or.inl h) (fun q _ h => Or.inl h) (fun E' ce q9 ad' t H1 locs1 ht hvm hnx hB hz hk hS hce hcv hcl => ?_)
  obtain ⟨hE, hB⟩ : E' = xNE ∧ nw D vcl PT ad' (ct1 ad') t.heap := hB
  subst hE
  rw [ht] at hB
  have hO := nwo_keep hO hk (hoN (Nat.le_refl 0))
  have hpass : ∀ z ∈ ([⟨0, 10, 13, 21⟩, ⟨0, 10, 17, 13⟩] : List ExceptionTableEntry), covers z 5 = false ∨ (z.catchType ≠ 0 ∧ ∃ nm : String, (Cond.classLink R_Lw z.catchType nm).before ([.ref (ad 0), .int x1, .int x2, .ref oa] : List Value).toArray s = true ∧ va_Nc xNE nm s) := by
    intro z hz
    simp only [List.mem_cons, List.not_mem_nil, or_false] at hz
    rcases hz with rfl | rfl
    · exact Or.inr ⟨by decide, _, hts _ kl_Lw_21, hN _ (List.mem_of_getElem? (i := 3) rfl)⟩
    · exact Or.inr ⟨by decide, _, hts _ kl_Lw_13, hN _ (List.mem_of_getElem? (i := 4) rfl)⟩
  refine vx_catch (own := R_Lw) (name := xNE) hown [⟨0, 10, 13, 21⟩, ⟨0, 10, 17, 13⟩] ⟨0, 10, 21, 34⟩ [] htab hpass (by decide) (by decide) (hts _ kl_Lw_34) (BW_use hX.1 _ (List.mem_of_getElem? (i := 3) rfl)) hce hcv hcl ?_
  refine lv_astore (lv' := [(4, .ref (q9)), (0, .ref (ad 0)), (1, .int (x1)), (2, .int (x2)), (3, .ref (oa))]) hx hb d_Lw_record_21 hl (by decide) rfl (fun ls hl => ?_)
  refine lv_iconst (v := nI 3) hx hb d_Lw_record_23 (by decide) ?_
  refine W.widen (k := 2) (n := 2054) (Nat.le_of_ble_eq_true rfl) (Nat.le_of_ble_eq_true rfl) ?_
  exact W.zret hx hb hr rfl (fun t ht hW => ⟨⟨nI 3, (ad', x), rfl, ⟨rfl, hnx, fun h => absurd h (by decide)⟩, by show nw D vcl PT ad' (ct1 ad') t.heap ∧ nwo D cy oa _ t.heap; rw [ht]; exact ⟨hB, hO⟩⟩, hS.F ht⟩) hS.2.2 d_Lw_record_24 hlk
set_option maxRecDepth 100000 in
set_option maxHeartbeats 4000000 in
theorem h_word_ok (l : Launch) (D : va_G) (cy : Nat → ClassId) (ad : Nat → Nat) (ct : Nat → va_E) (ct1 : (Nat → Nat) → Nat → va_E) (f0 : List Value) (h0 : ct 0 = .inr (4, f0)) (oa : Nat) (x : Int64) (sa : Nat → Nat) (base : Nat) (x1 x2 : Int32) (r : Int64) (hM : mtXL l y_Tl_word b_Tl_word 8 (some .long) RT D cy [.ref (ad 0), .int x1, .int x2] ad ct ct1 r) : mtH l y_Lw_word b_Lw_word 5 h_Lw_word D cy [.ref (ad 0), .int x1, .int x2, .ref oa] ad ct ct1 oa x sa base 0 r := by
  intro sz
  refine nh_ofW (cc := b_Lw_word) (maxL := 5) (ret := some .int) (hh := h_Lw_word) (own := R_Lw) (by decide) (Nat.le_of_ble_eq_true rfl) rfl ?_
  intro p e s m below meth c ls F hr hlk htab hv hl
  obtain ⟨hx, hb, hml, hown, hts⟩ := id F
  obtain ⟨rfl, ⟨⟨hP, hK, hI⟩, hX, hlo⟩, hO, hoa, hbo, hN⟩ := hv
  have hoN : ∀ {z : Nat}, z ≤ z → ¬ na PT ad s.heap.size oa := fun _ h => h.elim (fun ⟨i, hi, e⟩ => hoa i hi e.symm) (fun h => absurd (hO 0 (by decide)).lt (Nat.not_lt.mpr h))
  have hS : va_S (naH ad oa s.heap.size) s.heap s.heap [] := va_S.rf
  have hl : lv_has ls 5 [(0, .ref (ad 0)), (1, .int (x1)), (2, .int (x2)), (3, .ref (oa))] := hl
  refine lv_aload_n hx hb d_Lw_word_0 rfl (lv_at hl 3 rfl) ?_
  refine lv_iconst (v := nI 0) hx hb d_Lw_word_1 (by decide) ?_
  refine lv_aload_n hx hb d_Lw_word_2 rfl (lv_at hl 0 rfl) ?_
  refine lv_iload_n hx hb d_Lw_word_3 rfl (lv_at hl 1 rfl) ?_
  refine lv_iload_n hx hb d_Lw_word_4 rfl (lv_at hl 2 rfl) ?_
  refine va_calll (va_runV (As := [.int x1, .int x2]) (rest := [.int (nI 0), .ref oa]) (b := ad 0) F (hM s.heap.size) ⟨cw_b 2 hts km_Lw_42 k0_Tl kc_Tl_word kd_Tl_word ⟨(Nat.le_of_ble_eq_true rfl), (Nat.le_of_ble_eq_true rfl)⟩, hts _ ki_Tl_word, hts _ ks_Tl_word⟩ ⟨pre0_blind, nw_recv hK.k hP (i := 0) (by decide) h0 rfl, pre0_at hK hP hI⟩ rfl rfl hl.1 rfl (lv_room (Nat.le_of_ble_eq_true rfl)) d_Lw_word_5 ⟨(Nat.le_of_ble_eq_true rfl), (Nat.le_of_ble_eq_true rfl)⟩) hS (fun q _ h => Or.inl h) (fun q h => Or.inl h) (fun r' ad' t H1 locs1 ht hvm hw hB hz hk hS => ?_)
  obtain ⟨rfl, hnx⟩ := hw
  have hB : nw D vcl PT ad' (ct1 ad') t.heap := hB
  rw [ht] at hB
  have hO := nwo_keep hO hk (hoN (Nat.le_refl 0))
  have hda : ∀ i, PT i → ad' i ≠ oa := fun i hi h => (hnx.2.1 i hi).elim (fun e => hoa i hi (e.symm.trans h)) (fun z => hoN (Nat.le_refl 0) (Or.inr (by rw [← h]; exact z)))
  refine nwo_last (y := r') hx hb hK hO (Or.inr rfl) hS d_Lw_word_8 (fun H2 locs2 hO hS hz2 hq2 => ?_)
  have hB : nw D vcl PT ad' (ct1 ad') H2 := nw_keep hB (A := fun q => q = oa) (fun q _ h => hq2 q h) hda
  refine lv_goto (tgt := 24) hx hb d_Lw_word_9 (by decide) ?_
  refine lv_iconst (v := nI 0) hx hb d_Lw_word_24 (by decide) ?_
  refine W.widen (k := 2) (n := 2054) (Nat.le_of_ble_eq_true rfl) (Nat.le_of_ble_eq_true rfl) ?_
  exact W.zret hx hb hr rfl (fun t ht hW => ⟨⟨nI 0, (ad', r'), rfl, ⟨rfl, hnx, fun _ => rfl⟩, by show nw D vcl PT ad' (ct1 ad') t.heap ∧ nwo D cy oa _ t.heap; rw [ht]; exact ⟨hB, hO⟩⟩, hS.F ht⟩) hS.2.2 d_Lw_word_25 hlk
set_option maxRecDepth 100000 in
set_option maxHeartbeats 4000000 in
theorem h_word_IS (l : Launch) (D : va_G) (cy : Nat → ClassId) (ad : Nat → Nat) (ct : Nat → va_E) (ct1 : (Nat → Nat) → Nat → va_E) (f0 : List Value) (h0 : ct 0 = .inr (4, f0)) (oa : Nat) (x : Int64) (sa : Nat → Nat) (base : Nat) (x1 x2 : Int32) (r : Int64) (hM : mtU l y_Tl_word b_Tl_word 8 (some .long) RT D cy [.ref (ad 0), .int x1, .int x2] ad ct ct1 sa base xIS) : mtH l y_Lw_word b_Lw_word 5 h_Lw_word D cy [.ref (ad 0), .int x1, .int x2, .ref oa] ad ct ct1 oa x sa base 1 r := by
  intro sz
  refine nh_ofW (cc := b_Lw_word) (maxL := 5) (ret := some .int) (hh := h_Lw_word) (own := R_Lw) (by decide) (Nat.le_of_ble_eq_true rfl) rfl ?_
  intro p e s m below meth c ls F hr hlk htab hv hl
  obtain ⟨hx, hb, hml, hown, hts⟩ := id F
  obtain ⟨rfl, ⟨⟨hP, hK, hI⟩, hX, hlo⟩, hO, hoa, hbo, hN⟩ := hv
  have hoN : ∀ {z : Nat}, z ≤ z → ¬ na PT ad s.heap.size oa := fun _ h => h.elim (fun ⟨i, hi, e⟩ => hoa i hi e.symm) (fun h => absurd (hO 0 (by decide)).lt (Nat.not_lt.mpr h))
  have hS : va_S (naH ad oa s.heap.size) s.heap s.heap [] := va_S.rf
  have hl : lv_has ls 5 [(0, .ref (ad 0)), (1, .int (x1)), (2, .int (x2)), (3, .ref (oa))] := hl
  refine lv_aload_n hx hb d_Lw_word_0 rfl (lv_at hl 3 rfl) ?_
  refine lv_iconst (v := nI 0) hx hb d_Lw_word_1 (by decide) ?_
  refine lv_aload_n hx hb d_Lw_word_2 rfl (lv_at hl 0 rfl) ?_
  refine lv_iload_n hx hb d_Lw_word_3 rfl (lv_at hl 1 rfl) ?_
  refine lv_iload_n hx hb d_Lw_word_4 rfl (lv_at hl 2 rfl) ?_
  refine vx_only (vx_runV (As := [.int x1, .int x2]) (rest := [.int (nI 0), .ref oa]) (b := ad 0) F (hM s.heap.size) ⟨cw_b 2 hts km_Lw_42 k0_Tl kc_Tl_word kd_Tl_word ⟨(Nat.le_of_ble_eq_true rfl), (Nat.le_of_ble_eq_true rfl)⟩, hts _ ki_Tl_word, hts _ ks_Tl_word⟩ ⟨preX_blind, nw_recv hK.k hP (i := 0) (by decide) h0 rfl, preX_at hK hX hS (fun q _ h => h.elim (fun h => h.elim (fun ⟨i, hi, e⟩ => by rw [e]; exact hlo i hi) (fun h => Nat.le_trans hX.2.2.2.2 h)) (fun e => by rw [e]; exact hbo)) hP hI hlo⟩ rfl rfl hl.1 rfl (lv_room (Nat.le_of_ble_eq_true rfl)) d_Lw_word_5 ⟨(Nat.le_of_ble_eq_true rfl), (Nat.le_of_ble_eq_true rfl)⟩) hS (fun q h => Or.inl h) (fun q _ h => Or.inl h) (fun E' ce q9 ad' t H1 locs1 ht hvm hnx hB hz hk hS hce hcv hcl => ?_)
  obtain ⟨hE, hB⟩ : E' = xIS ∧ nw D vcl PT ad' (ct1 ad') t.heap := hB
  subst hE
  rw [ht] at hB
  have hO := nwo_keep hO hk (hoN (Nat.le_refl 0))
  refine vx_catch (own := R_Lw) (name := xIS) hown [] ⟨0, 9, 12, 13⟩ [⟨0, 9, 16, 34⟩, ⟨0, 9, 20, 15⟩] htab (fun z hz => absurd hz List.not_mem_nil) (by decide) (by decide) (hts _ kl_Lw_13) (BW_use hX.1 _ (List.mem_of_getElem? (i := 1) rfl)) hce hcv hcl ?_
  refine lv_astore (lv' := [(4, .ref (q9)), (0, .ref (ad 0)), (1, .int (x1)), (2, .int (x2)), (3, .ref (oa))]) hx hb d_Lw_word_12 hl (by decide) rfl (fun ls hl => ?_)
  refine lv_iconst (v := nI 1) hx hb d_Lw_word_14 (by decide) ?_
  refine W.widen (k := 2) (n := 2054) (Nat.le_of_ble_eq_true rfl) (Nat.le_of_ble_eq_true rfl) ?_
  exact W.zret hx hb hr rfl (fun t ht hW => ⟨⟨nI 1, (ad', x), rfl, ⟨rfl, hnx, fun h => absurd h (by decide)⟩, by show nw D vcl PT ad' (ct1 ad') t.heap ∧ nwo D cy oa _ t.heap; rw [ht]; exact ⟨hB, hO⟩⟩, hS.F ht⟩) hS.2.2 d_Lw_word_15 hlk
set_option maxRecDepth 100000 in
set_option maxHeartbeats 4000000 in
theorem h_word_NE (l : Launch) (D : va_G) (cy : Nat → ClassId) (ad : Nat → Nat) (ct : Nat → va_E) (ct1 : (Nat → Nat) → Nat → va_E) (f0 : List Value) (h0 : ct 0 = .inr (4, f0)) (oa : Nat) (x : Int64) (sa : Nat → Nat) (base : Nat) (x1 x2 : Int32) (r : Int64) (hM : mtU l y_Tl_word b_Tl_word 8 (some .long) RT D cy [.ref (ad 0), .int x1, .int x2] ad ct ct1 sa base xNE) : mtH l y_Lw_word b_Lw_word 5 h_Lw_word D cy [.ref (ad 0), .int x1, .int x2, .ref oa] ad ct ct1 oa x sa base 2 r := by
  intro sz
  refine nh_ofW (cc := b_Lw_word) (maxL := 5) (ret := some .int) (hh := h_Lw_word) (own := R_Lw) (by decide) (Nat.le_of_ble_eq_true rfl) rfl ?_
  intro p e s m below meth c ls F hr hlk htab hv hl
  obtain ⟨hx, hb, hml, hown, hts⟩ := id F
  obtain ⟨rfl, ⟨⟨hP, hK, hI⟩, hX, hlo⟩, hO, hoa, hbo, hN⟩ := hv
  have hoN : ∀ {z : Nat}, z ≤ z → ¬ na PT ad s.heap.size oa := fun _ h => h.elim (fun ⟨i, hi, e⟩ => hoa i hi e.symm) (fun h => absurd (hO 0 (by decide)).lt (Nat.not_lt.mpr h))
  have hS : va_S (naH ad oa s.heap.size) s.heap s.heap [] := va_S.rf
  have hl : lv_has ls 5 [(0, .ref (ad 0)), (1, .int (x1)), (2, .int (x2)), (3, .ref (oa))] := hl
  refine lv_aload_n hx hb d_Lw_word_0 rfl (lv_at hl 3 rfl) ?_
  refine lv_iconst (v := nI 0) hx hb d_Lw_word_1 (by decide) ?_
  refine lv_aload_n hx hb d_Lw_word_2 rfl (lv_at hl 0 rfl) ?_
  refine lv_iload_n hx hb d_Lw_word_3 rfl (lv_at hl 1 rfl) ?_
  refine lv_iload_n hx hb d_Lw_word_4 rfl (lv_at hl 2 rfl) ?_
  refine vx_only (vx_runV (As := [.int x1, .int x2]) (rest := [.int (nI 0), .ref oa]) (b := ad 0) F (hM s.heap.size) ⟨cw_b 2 hts km_Lw_42 k0_Tl kc_Tl_word kd_Tl_word ⟨(Nat.le_of_ble_eq_true rfl), (Nat.le_of_ble_eq_true rfl)⟩, hts _ ki_Tl_word, hts _ ks_Tl_word⟩ ⟨preX_blind, nw_recv hK.k hP (i := 0) (by decide) h0 rfl, preX_at hK hX hS (fun q _ h => h.elim (fun h => h.elim (fun ⟨i, hi, e⟩ => by rw [e]; exact hlo i hi) (fun h => Nat.le_trans hX.2.2.2.2 h)) (fun e => by rw [e]; exact hbo)) hP hI hlo⟩ rfl rfl hl.1 rfl (lv_room (Nat.le_of_ble_eq_true rfl)) d_Lw_word_5 ⟨(Nat.le_of_ble_eq_true rfl), (Nat.le_of_ble_eq_true rfl)⟩) hS (fun q h => Or.inl h) (fun q _ h => Or.inl h) (fun E' ce q9 ad' t H1 locs1 ht hvm hnx hB hz hk hS hce hcv hcl => ?_)
  obtain ⟨hE, hB⟩ : E' = xNE ∧ nw D vcl PT ad' (ct1 ad') t.heap := hB
  subst hE
  rw [ht] at hB
  have hO := nwo_keep hO hk (hoN (Nat.le_refl 0))
  have hpass : ∀ z ∈ ([⟨0, 9, 12, 13⟩] : List ExceptionTableEntry), covers z 5 = false ∨ (z.catchType ≠ 0 ∧ ∃ nm : String, (Cond.classLink R_Lw z.catchType nm).before ([.ref (ad 0), .int x1, .int x2, .ref oa] : List Value).toArray s = true ∧ va_Nc xNE nm s) := by
    intro z hz
    simp only [List.mem_cons, List.not_mem_nil, or_false] at hz
    subst hz
    · exact Or.inr ⟨by decide, _, hts _ kl_Lw_13, hN _ (List.mem_of_getElem? (i := 4) rfl)⟩
  refine vx_catch (own := R_Lw) (name := xNE) hown [⟨0, 9, 12, 13⟩] ⟨0, 9, 16, 34⟩ [⟨0, 9, 20, 15⟩] htab hpass (by decide) (by decide) (hts _ kl_Lw_34) (BW_use hX.1 _ (List.mem_of_getElem? (i := 3) rfl)) hce hcv hcl ?_
  refine lv_astore (lv' := [(4, .ref (q9)), (0, .ref (ad 0)), (1, .int (x1)), (2, .int (x2)), (3, .ref (oa))]) hx hb d_Lw_word_16 hl (by decide) rfl (fun ls hl => ?_)
  refine lv_iconst (v := nI 2) hx hb d_Lw_word_18 (by decide) ?_
  refine W.widen (k := 2) (n := 2054) (Nat.le_of_ble_eq_true rfl) (Nat.le_of_ble_eq_true rfl) ?_
  exact W.zret hx hb hr rfl (fun t ht hW => ⟨⟨nI 2, (ad', x), rfl, ⟨rfl, hnx, fun h => absurd h (by decide)⟩, by show nw D vcl PT ad' (ct1 ad') t.heap ∧ nwo D cy oa _ t.heap; rw [ht]; exact ⟨hB, hO⟩⟩, hS.F ht⟩) hS.2.2 d_Lw_word_19 hlk
set_option maxRecDepth 100000 in
set_option maxHeartbeats 4000000 in
theorem h_word_IB (l : Launch) (D : va_G) (cy : Nat → ClassId) (ad : Nat → Nat) (ct : Nat → va_E) (ct1 : (Nat → Nat) → Nat → va_E) (f0 : List Value) (h0 : ct 0 = .inr (4, f0)) (oa : Nat) (x : Int64) (sa : Nat → Nat) (base : Nat) (x1 x2 : Int32) (r : Int64) (hM : mtU l y_Tl_word b_Tl_word 8 (some .long) RT D cy [.ref (ad 0), .int x1, .int x2] ad ct ct1 sa base xIB) : mtH l y_Lw_word b_Lw_word 5 h_Lw_word D cy [.ref (ad 0), .int x1, .int x2, .ref oa] ad ct ct1 oa x sa base 3 r := by
  intro sz
  refine nh_ofW (cc := b_Lw_word) (maxL := 5) (ret := some .int) (hh := h_Lw_word) (own := R_Lw) (by decide) (Nat.le_of_ble_eq_true rfl) rfl ?_
  intro p e s m below meth c ls F hr hlk htab hv hl
  obtain ⟨hx, hb, hml, hown, hts⟩ := id F
  obtain ⟨rfl, ⟨⟨hP, hK, hI⟩, hX, hlo⟩, hO, hoa, hbo, hN⟩ := hv
  have hoN : ∀ {z : Nat}, z ≤ z → ¬ na PT ad s.heap.size oa := fun _ h => h.elim (fun ⟨i, hi, e⟩ => hoa i hi e.symm) (fun h => absurd (hO 0 (by decide)).lt (Nat.not_lt.mpr h))
  have hS : va_S (naH ad oa s.heap.size) s.heap s.heap [] := va_S.rf
  have hl : lv_has ls 5 [(0, .ref (ad 0)), (1, .int (x1)), (2, .int (x2)), (3, .ref (oa))] := hl
  refine lv_aload_n hx hb d_Lw_word_0 rfl (lv_at hl 3 rfl) ?_
  refine lv_iconst (v := nI 0) hx hb d_Lw_word_1 (by decide) ?_
  refine lv_aload_n hx hb d_Lw_word_2 rfl (lv_at hl 0 rfl) ?_
  refine lv_iload_n hx hb d_Lw_word_3 rfl (lv_at hl 1 rfl) ?_
  refine lv_iload_n hx hb d_Lw_word_4 rfl (lv_at hl 2 rfl) ?_
  refine vx_only (vx_runV (As := [.int x1, .int x2]) (rest := [.int (nI 0), .ref oa]) (b := ad 0) F (hM s.heap.size) ⟨cw_b 2 hts km_Lw_42 k0_Tl kc_Tl_word kd_Tl_word ⟨(Nat.le_of_ble_eq_true rfl), (Nat.le_of_ble_eq_true rfl)⟩, hts _ ki_Tl_word, hts _ ks_Tl_word⟩ ⟨preX_blind, nw_recv hK.k hP (i := 0) (by decide) h0 rfl, preX_at hK hX hS (fun q _ h => h.elim (fun h => h.elim (fun ⟨i, hi, e⟩ => by rw [e]; exact hlo i hi) (fun h => Nat.le_trans hX.2.2.2.2 h)) (fun e => by rw [e]; exact hbo)) hP hI hlo⟩ rfl rfl hl.1 rfl (lv_room (Nat.le_of_ble_eq_true rfl)) d_Lw_word_5 ⟨(Nat.le_of_ble_eq_true rfl), (Nat.le_of_ble_eq_true rfl)⟩) hS (fun q h => Or.inl h) (fun q _ h => Or.inl h) (fun E' ce q9 ad' t H1 locs1 ht hvm hnx hB hz hk hS hce hcv hcl => ?_)
  obtain ⟨hE, hB⟩ : E' = xIB ∧ nw D vcl PT ad' (ct1 ad') t.heap := hB
  subst hE
  rw [ht] at hB
  have hO := nwo_keep hO hk (hoN (Nat.le_refl 0))
  have hpass : ∀ z ∈ ([⟨0, 9, 12, 13⟩, ⟨0, 9, 16, 34⟩] : List ExceptionTableEntry), covers z 5 = false ∨ (z.catchType ≠ 0 ∧ ∃ nm : String, (Cond.classLink R_Lw z.catchType nm).before ([.ref (ad 0), .int x1, .int x2, .ref oa] : List Value).toArray s = true ∧ va_Nc xIB nm s) := by
    intro z hz
    simp only [List.mem_cons, List.not_mem_nil, or_false] at hz
    rcases hz with rfl | rfl
    · exact Or.inr ⟨by decide, _, hts _ kl_Lw_13, hN _ (List.mem_of_getElem? (i := 2) rfl)⟩
    · exact Or.inr ⟨by decide, _, hts _ kl_Lw_34, hN _ (List.mem_of_getElem? (i := 5) rfl)⟩
  refine vx_catch (own := R_Lw) (name := xIB) hown [⟨0, 9, 12, 13⟩, ⟨0, 9, 16, 34⟩] ⟨0, 9, 20, 15⟩ [] htab hpass (by decide) (by decide) (hts _ kl_Lw_15) (BW_use hX.1 _ (List.mem_of_getElem? (i := 2) rfl)) hce hcv hcl ?_
  refine lv_astore (lv' := [(4, .ref (q9)), (0, .ref (ad 0)), (1, .int (x1)), (2, .int (x2)), (3, .ref (oa))]) hx hb d_Lw_word_20 hl (by decide) rfl (fun ls hl => ?_)
  refine lv_iconst (v := nI 3) hx hb d_Lw_word_22 (by decide) ?_
  refine W.widen (k := 2) (n := 2054) (Nat.le_of_ble_eq_true rfl) (Nat.le_of_ble_eq_true rfl) ?_
  exact W.zret hx hb hr rfl (fun t ht hW => ⟨⟨nI 3, (ad', x), rfl, ⟨rfl, hnx, fun h => absurd h (by decide)⟩, by show nw D vcl PT ad' (ct1 ad') t.heap ∧ nwo D cy oa _ t.heap; rw [ht]; exact ⟨hB, hO⟩⟩, hS.F ht⟩) hS.2.2 d_Lw_word_23 hlk
set_option maxRecDepth 100000 in
set_option maxHeartbeats 4000000 in
theorem h_count_ok (l : Launch) (D : va_G) (cy : Nat → ClassId) (ad : Nat → Nat) (ct : Nat → va_E) (ct1 : (Nat → Nat) → Nat → va_E) (f0 : List Value) (h0 : ct 0 = .inr (4, f0)) (oa : Nat) (x : Int64) (sa : Nat → Nat) (base : Nat) (x1 : Int32) (r : Int32) (hM : mtX l y_Tl_count b_Tl_count 2 (some .int) RT D cy [.ref (ad 0), .int x1] ad ct ct1 r) : mtH l y_Lw_count b_Lw_count 4 h_Lw_count D cy [.ref (ad 0), .int x1, .ref oa] ad ct ct1 oa x sa base 0 r.toInt64 := by
  intro sz
  refine nh_ofW (cc := b_Lw_count) (maxL := 4) (ret := some .int) (hh := h_Lw_count) (own := R_Lw) (by decide) (Nat.le_of_ble_eq_true rfl) rfl ?_
  intro p e s m below meth c ls F hr hlk htab hv hl
  obtain ⟨hx, hb, hml, hown, hts⟩ := id F
  obtain ⟨rfl, ⟨⟨hP, hK, hI⟩, hX, hlo⟩, hO, hoa, hbo, hN⟩ := hv
  have hoN : ∀ {z : Nat}, z ≤ z → ¬ na PT ad s.heap.size oa := fun _ h => h.elim (fun ⟨i, hi, e⟩ => hoa i hi e.symm) (fun h => absurd (hO 0 (by decide)).lt (Nat.not_lt.mpr h))
  have hS : va_S (naH ad oa s.heap.size) s.heap s.heap [] := va_S.rf
  have hl : lv_has ls 4 [(0, .ref (ad 0)), (1, .int (x1)), (2, .ref (oa))] := hl
  refine lv_aload_n hx hb d_Lw_count_0 rfl (lv_at hl 2 rfl) ?_
  refine lv_iconst (v := nI 0) hx hb d_Lw_count_1 (by decide) ?_
  refine lv_aload_n hx hb d_Lw_count_2 rfl (lv_at hl 0 rfl) ?_
  refine lv_iload_n hx hb d_Lw_count_3 rfl (lv_at hl 1 rfl) ?_
  refine va_calli (va_runV (As := [.int x1]) (rest := [.int (nI 0), .ref oa]) (b := ad 0) F (hM s.heap.size) ⟨cw_b 1 hts km_Lw_46 k0_Tl kc_Tl_count kd_Tl_count ⟨(Nat.le_of_ble_eq_true rfl), (Nat.le_of_ble_eq_true rfl)⟩, hts _ ki_Tl_count, hts _ ks_Tl_count⟩ ⟨pre0_blind, nw_recv hK.k hP (i := 0) (by decide) h0 rfl, pre0_at hK hP hI⟩ rfl rfl hl.1 rfl (lv_room (Nat.le_of_ble_eq_true rfl)) d_Lw_count_4 ⟨(Nat.le_of_ble_eq_true rfl), (Nat.le_of_ble_eq_true rfl)⟩) hS (fun q _ h => Or.inl h) (fun q h => Or.inl h) (fun r' ad' t H1 locs1 ht hvm hw hB hz hk hS => ?_)
  obtain ⟨rfl, hnx⟩ := hw
  have hB : nw D vcl PT ad' (ct1 ad') t.heap := hB
  rw [ht] at hB
  have hO := nwo_keep hO hk (hoN (Nat.le_refl 0))
  have hda : ∀ i, PT i → ad' i ≠ oa := fun i hi h => (hnx.2.1 i hi).elim (fun e => hoa i hi (e.symm.trans h)) (fun z => hoN (Nat.le_refl 0) (Or.inr (by rw [← h]; exact z)))
  refine lv_i2l hx hb d_Lw_count_7 rfl ?_
  refine nwo_last (y := r'.toInt64) hx hb hK hO (Or.inr rfl) hS d_Lw_count_8 (fun H2 locs2 hO hS hz2 hq2 => ?_)
  have hB : nw D vcl PT ad' (ct1 ad') H2 := nw_keep hB (A := fun q => q = oa) (fun q _ h => hq2 q h) hda
  refine lv_goto (tgt := 18) hx hb d_Lw_count_9 (by decide) ?_
  refine lv_iconst (v := nI 0) hx hb d_Lw_count_18 (by decide) ?_
  refine W.widen (k := 2) (n := 2054) (Nat.le_of_ble_eq_true rfl) (Nat.le_of_ble_eq_true rfl) ?_
  exact W.zret hx hb hr rfl (fun t ht hW => ⟨⟨nI 0, (ad', r'.toInt64), rfl, ⟨rfl, hnx, fun _ => rfl⟩, by show nw D vcl PT ad' (ct1 ad') t.heap ∧ nwo D cy oa _ t.heap; rw [ht]; exact ⟨hB, hO⟩⟩, hS.F ht⟩) hS.2.2 d_Lw_count_19 hlk
set_option maxRecDepth 100000 in
set_option maxHeartbeats 4000000 in
theorem h_count_IA (l : Launch) (D : va_G) (cy : Nat → ClassId) (ad : Nat → Nat) (ct : Nat → va_E) (ct1 : (Nat → Nat) → Nat → va_E) (f0 : List Value) (h0 : ct 0 = .inr (4, f0)) (oa : Nat) (x : Int64) (sa : Nat → Nat) (base : Nat) (x1 : Int32) (r : Int64) (hM : mtU l y_Tl_count b_Tl_count 2 (some .int) RT D cy [.ref (ad 0), .int x1] ad ct ct1 sa base xIA) : mtH l y_Lw_count b_Lw_count 4 h_Lw_count D cy [.ref (ad 0), .int x1, .ref oa] ad ct ct1 oa x sa base 1 r := by
  intro sz
  refine nh_ofW (cc := b_Lw_count) (maxL := 4) (ret := some .int) (hh := h_Lw_count) (own := R_Lw) (by decide) (Nat.le_of_ble_eq_true rfl) rfl ?_
  intro p e s m below meth c ls F hr hlk htab hv hl
  obtain ⟨hx, hb, hml, hown, hts⟩ := id F
  obtain ⟨rfl, ⟨⟨hP, hK, hI⟩, hX, hlo⟩, hO, hoa, hbo, hN⟩ := hv
  have hoN : ∀ {z : Nat}, z ≤ z → ¬ na PT ad s.heap.size oa := fun _ h => h.elim (fun ⟨i, hi, e⟩ => hoa i hi e.symm) (fun h => absurd (hO 0 (by decide)).lt (Nat.not_lt.mpr h))
  have hS : va_S (naH ad oa s.heap.size) s.heap s.heap [] := va_S.rf
  have hl : lv_has ls 4 [(0, .ref (ad 0)), (1, .int (x1)), (2, .ref (oa))] := hl
  refine lv_aload_n hx hb d_Lw_count_0 rfl (lv_at hl 2 rfl) ?_
  refine lv_iconst (v := nI 0) hx hb d_Lw_count_1 (by decide) ?_
  refine lv_aload_n hx hb d_Lw_count_2 rfl (lv_at hl 0 rfl) ?_
  refine lv_iload_n hx hb d_Lw_count_3 rfl (lv_at hl 1 rfl) ?_
  refine vx_only (vx_runV (As := [.int x1]) (rest := [.int (nI 0), .ref oa]) (b := ad 0) F (hM s.heap.size) ⟨cw_b 1 hts km_Lw_46 k0_Tl kc_Tl_count kd_Tl_count ⟨(Nat.le_of_ble_eq_true rfl), (Nat.le_of_ble_eq_true rfl)⟩, hts _ ki_Tl_count, hts _ ks_Tl_count⟩ ⟨preX_blind, nw_recv hK.k hP (i := 0) (by decide) h0 rfl, preX_at hK hX hS (fun q _ h => h.elim (fun h => h.elim (fun ⟨i, hi, e⟩ => by rw [e]; exact hlo i hi) (fun h => Nat.le_trans hX.2.2.2.2 h)) (fun e => by rw [e]; exact hbo)) hP hI hlo⟩ rfl rfl hl.1 rfl (lv_room (Nat.le_of_ble_eq_true rfl)) d_Lw_count_4 ⟨(Nat.le_of_ble_eq_true rfl), (Nat.le_of_ble_eq_true rfl)⟩) hS (fun q h => Or.inl h) (fun q _ h => Or.inl h) (fun E' ce q9 ad' t H1 locs1 ht hvm hnx hB hz hk hS hce hcv hcl => ?_)
  obtain ⟨hE, hB⟩ : E' = xIA ∧ nw D vcl PT ad' (ct1 ad') t.heap := hB
  subst hE
  rw [ht] at hB
  have hO := nwo_keep hO hk (hoN (Nat.le_refl 0))
  refine vx_catch (own := R_Lw) (name := xIA) hown [] ⟨0, 9, 12, 21⟩ [⟨0, 9, 15, 13⟩] htab (fun z hz => absurd hz List.not_mem_nil) (by decide) (by decide) (hts _ kl_Lw_21) (BW_use hX.1 _ (List.mem_of_getElem? (i := 0) rfl)) hce hcv hcl ?_
  refine lv_astore_n (lv' := [(3, .ref (q9)), (0, .ref (ad 0)), (1, .int (x1)), (2, .ref (oa))]) hx hb d_Lw_count_12 rfl hl (by decide) rfl (fun ls hl => ?_)
  refine lv_iconst (v := nI 1) hx hb d_Lw_count_13 (by decide) ?_
  refine W.widen (k := 2) (n := 2054) (Nat.le_of_ble_eq_true rfl) (Nat.le_of_ble_eq_true rfl) ?_
  exact W.zret hx hb hr rfl (fun t ht hW => ⟨⟨nI 1, (ad', x), rfl, ⟨rfl, hnx, fun h => absurd h (by decide)⟩, by show nw D vcl PT ad' (ct1 ad') t.heap ∧ nwo D cy oa _ t.heap; rw [ht]; exact ⟨hB, hO⟩⟩, hS.F ht⟩) hS.2.2 d_Lw_count_14 hlk
set_option maxRecDepth 100000 in
set_option maxHeartbeats 4000000 in
theorem h_count_IS (l : Launch) (D : va_G) (cy : Nat → ClassId) (ad : Nat → Nat) (ct : Nat → va_E) (ct1 : (Nat → Nat) → Nat → va_E) (f0 : List Value) (h0 : ct 0 = .inr (4, f0)) (oa : Nat) (x : Int64) (sa : Nat → Nat) (base : Nat) (x1 : Int32) (r : Int64) (hM : mtU l y_Tl_count b_Tl_count 2 (some .int) RT D cy [.ref (ad 0), .int x1] ad ct ct1 sa base xIS) : mtH l y_Lw_count b_Lw_count 4 h_Lw_count D cy [.ref (ad 0), .int x1, .ref oa] ad ct ct1 oa x sa base 2 r := by
  intro sz
  refine nh_ofW (cc := b_Lw_count) (maxL := 4) (ret := some .int) (hh := h_Lw_count) (own := R_Lw) (by decide) (Nat.le_of_ble_eq_true rfl) rfl ?_
  intro p e s m below meth c ls F hr hlk htab hv hl
  obtain ⟨hx, hb, hml, hown, hts⟩ := id F
  obtain ⟨rfl, ⟨⟨hP, hK, hI⟩, hX, hlo⟩, hO, hoa, hbo, hN⟩ := hv
  have hoN : ∀ {z : Nat}, z ≤ z → ¬ na PT ad s.heap.size oa := fun _ h => h.elim (fun ⟨i, hi, e⟩ => hoa i hi e.symm) (fun h => absurd (hO 0 (by decide)).lt (Nat.not_lt.mpr h))
  have hS : va_S (naH ad oa s.heap.size) s.heap s.heap [] := va_S.rf
  have hl : lv_has ls 4 [(0, .ref (ad 0)), (1, .int (x1)), (2, .ref (oa))] := hl
  refine lv_aload_n hx hb d_Lw_count_0 rfl (lv_at hl 2 rfl) ?_
  refine lv_iconst (v := nI 0) hx hb d_Lw_count_1 (by decide) ?_
  refine lv_aload_n hx hb d_Lw_count_2 rfl (lv_at hl 0 rfl) ?_
  refine lv_iload_n hx hb d_Lw_count_3 rfl (lv_at hl 1 rfl) ?_
  refine vx_only (vx_runV (As := [.int x1]) (rest := [.int (nI 0), .ref oa]) (b := ad 0) F (hM s.heap.size) ⟨cw_b 1 hts km_Lw_46 k0_Tl kc_Tl_count kd_Tl_count ⟨(Nat.le_of_ble_eq_true rfl), (Nat.le_of_ble_eq_true rfl)⟩, hts _ ki_Tl_count, hts _ ks_Tl_count⟩ ⟨preX_blind, nw_recv hK.k hP (i := 0) (by decide) h0 rfl, preX_at hK hX hS (fun q _ h => h.elim (fun h => h.elim (fun ⟨i, hi, e⟩ => by rw [e]; exact hlo i hi) (fun h => Nat.le_trans hX.2.2.2.2 h)) (fun e => by rw [e]; exact hbo)) hP hI hlo⟩ rfl rfl hl.1 rfl (lv_room (Nat.le_of_ble_eq_true rfl)) d_Lw_count_4 ⟨(Nat.le_of_ble_eq_true rfl), (Nat.le_of_ble_eq_true rfl)⟩) hS (fun q h => Or.inl h) (fun q _ h => Or.inl h) (fun E' ce q9 ad' t H1 locs1 ht hvm hnx hB hz hk hS hce hcv hcl => ?_)
  obtain ⟨hE, hB⟩ : E' = xIS ∧ nw D vcl PT ad' (ct1 ad') t.heap := hB
  subst hE
  rw [ht] at hB
  have hO := nwo_keep hO hk (hoN (Nat.le_refl 0))
  have hpass : ∀ z ∈ ([⟨0, 9, 12, 21⟩] : List ExceptionTableEntry), covers z 4 = false ∨ (z.catchType ≠ 0 ∧ ∃ nm : String, (Cond.classLink R_Lw z.catchType nm).before ([.ref (ad 0), .int x1, .ref oa] : List Value).toArray s = true ∧ va_Nc xIS nm s) := by
    intro z hz
    simp only [List.mem_cons, List.not_mem_nil, or_false] at hz
    subst hz
    · exact Or.inr ⟨by decide, _, hts _ kl_Lw_21, hN _ (List.mem_of_getElem? (i := 0) rfl)⟩
  refine vx_catch (own := R_Lw) (name := xIS) hown [⟨0, 9, 12, 21⟩] ⟨0, 9, 15, 13⟩ [] htab hpass (by decide) (by decide) (hts _ kl_Lw_13) (BW_use hX.1 _ (List.mem_of_getElem? (i := 1) rfl)) hce hcv hcl ?_
  refine lv_astore_n (lv' := [(3, .ref (q9)), (0, .ref (ad 0)), (1, .int (x1)), (2, .ref (oa))]) hx hb d_Lw_count_15 rfl hl (by decide) rfl (fun ls hl => ?_)
  refine lv_iconst (v := nI 2) hx hb d_Lw_count_16 (by decide) ?_
  refine W.widen (k := 2) (n := 2054) (Nat.le_of_ble_eq_true rfl) (Nat.le_of_ble_eq_true rfl) ?_
  exact W.zret hx hb hr rfl (fun t ht hW => ⟨⟨nI 2, (ad', x), rfl, ⟨rfl, hnx, fun h => absurd h (by decide)⟩, by show nw D vcl PT ad' (ct1 ad') t.heap ∧ nwo D cy oa _ t.heap; rw [ht]; exact ⟨hB, hO⟩⟩, hS.F ht⟩) hS.2.2 d_Lw_count_17 hlk

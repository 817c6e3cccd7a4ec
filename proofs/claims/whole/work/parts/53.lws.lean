/-! the law's start: what is made, what the tables say -/
section LST
variable {p : Program} {l : Launch} {e : Env} {R : Room} {s : State} {m : MethodId} {args : Array Value} {below : List Frame} {meth : Method} {c : Code} {H : Heap} {locs : List Loc} {cells slots : Nat} {Q : State → Prop}
variable {cc : ByteArray} {pc nL : Nat} {ls : Array Slot} {rest st0 : List Value} {D : va_G} {cl : List vw_C} {A : Nat → Prop} {tys : List (ClassId × FieldType)} {H0 : Heap} {P : Nat → Prop} {ad : Nat → Nat} {ct : Nat → va_E}
theorem ns_newr (hexec : p.tables.exec = Jvm.exec) (hb : c.code = cc) {atype : ArrayType} (harr : (Cond.arrayClass (newarray.typeOf atype)).before args s = true) {ty : FieldType} (hty : newarray.typeOf atype = ty) (hS : va_S A H0 H locs) {cA : ClassId} (hcA : s.vm.findClass ("[" ++ ty.toString) = some cA)
    {n : Int32} {N' : Nat} {a0 : vp_A} (ha : ∀ cA : ClassId, vp_cell cA a0 = arrV cA N' (fun _ => defaultValue ty)) (hn : ¬ n < 0) (hN : n.toNatClampNeg = N') (hbytes : N' * componentBytes ty ≤ 536870912) (hcells : cells + 1 ≤ R.cells) (hslots : slots + N' ≤ R.slots) (hdg : decode cc pc = .ok (.newarray atype, 2)) {a : Nat} (hi : a = H.size)
    (kk : ∀ (H1 : Heap), H1.size = H.size + 1 → va_at D cl (a, .inl (cA, a0)) H1 → (∀ q : Nat, q < H.size → H1[q]? = H[q]?) → va_S A H0 H1 locs → W p l e R s m args below meth c H1 locs (cells + 1) (slots + N') Q (F0 m (pc + 2) ls (.ref a :: rest))) : W p l e R s m args below meth c H locs cells slots Q (F0 m pc ls (.int n :: rest)) := by
  subst hty
  refine va_newaK hexec hb harr rfl hdg rfl hn hN hbytes hcells hslots rfl fun H1 cA' e1 z1 o1 hAr hNm => ?_
  obtain rfl : cA' = cA := Option.some.inj (hNm.symm.trans hcA)
  rw [← hi]
  refine kk H1 z1 ?_ o1 ⟨Nat.le_trans hS.1 (by omega), fun x h1 h2 => (o1 x (Nat.lt_of_lt_of_le h1 hS.1)).trans (hS.2.1 x h1 h2), hS.2.2⟩
  show H1[a]? = some (vp_cell _ _)
  rw [ha, hi]
  exact e1
theorem ns_newo (hexec : p.tables.exec = Jvm.exec) (hb : c.code = cc) {own C : String} {T : u_T} {N ci index : Nat} {Ts : List Cond} (hts : ∀ w ∈ Ts, w.before args s = true) (hin : ∀ w ∈ u_ws C T N, w ∈ Ts) (ty : Nat → FieldType) (hty : ∀ k, k < N → parseFieldDescriptor (T k).2.2.1 = some (ty k)) (hown : s.vm.findClass own = some m.cls) (hcl : (Cond.classLink own index C).before args s = true) (hinst : (Cond.instantiable C N).before args s = true) (hini : (Cond.initialized C).before args s = true)
    (hK : va_K D cl tys s) (hS : va_S A H0 H locs) (hc : cl[ci]? = some (C, T, N)) {fs : List Value} (hfs : ∀ j, j < N → defaultValue (ty j) = vp_V fs j) (hcells : cells + 1 ≤ R.cells) (hslots : slots + N ≤ R.slots) (hdg : decode cc pc = .ok (.new index, 3)) {a : Nat} (hi : a = H.size)
    (kk : ∀ (H1 : Heap), H1.size = H.size + 1 → va_at D cl (a, .inr (ci, fs)) H1 → (∀ q : Nat, q < H.size → H1[q]? = H[q]?) → va_S A H0 H1 locs → W p l e R s m args below meth c H1 locs (cells + 1) (slots + N) Q (F0 m (pc + 3) ls (.ref a :: rest))) : W p l e R s m args below meth c H locs cells slots Q (F0 m pc ls rest) := by
  have hKn := hK.1 ci _ hc
  refine W.newcK hexec hb hown hcl hinst hini rfl hdg hcells hslots hKn.2.1 rfl fun H1 kC hkC e1 z1 o1 => ?_
  rw [← hi] at e1 ⊢
  exact kk H1 z1 ⟨_, hc, (u_born ty hts hin hKn hkC e1 hty).to hfs⟩ o1 ⟨Nat.le_trans hS.1 (by omega), fun x h1 h2 => (o1 x (Nat.lt_of_lt_of_le h1 hS.1)).trans (hS.2.1 x h1 h2), hS.2.2⟩
theorem nw_1 {a : Nat} {x : va_E} (ha : ad 0 = a) (hx : ct 0 = x) (h : va_at D cl (a, x) H) : nw D cl lt1 ad ct H := fun i hi => by
  obtain rfl : i = 0 := by have hi : i < 1 := hi; omega
  rw [ha, hx]; exact h
end LST
section LSP
def adT (B : Nat) : Nat → Nat := fun i => if i < 5 then B + i else if i < 9 then B + 48 + i else if i < 40 then B + 5 + 2 * (i - 10) else B + 6 + 2 * (i - 40)
def amT (B : Nat) : Nat → Nat := fun i => B + 57 + i
theorem adT_lo (B : Nat) {i : Nat} (h : i < 5) : adT B i = B + i := by unfold adT; rw [if_pos h]
theorem adT_mi (B : Nat) {i : Nat} (h : 5 ≤ i) (h2 : i < 9) : adT B i = B + 48 + i := by unfold adT; rw [if_neg (by omega), if_pos h2]
theorem adT_b (B : Nat) {i : Nat} (h : 10 ≤ i) (h2 : i < 40) : adT B i = B + 5 + 2 * (i - 10) := by unfold adT; rw [if_neg (by omega), if_neg (by omega), if_pos h2]
theorem adT_c (B : Nat) {i : Nat} (h : 40 ≤ i) : adT B i = B + 6 + 2 * (i - 40) := by unfold adT; rw [if_neg (by omega), if_neg (by omega), if_neg (by omega)]
theorem adT_cs (B : Nat) {i : Nat} (h : PT i) : (i < 5 ∧ adT B i = B + i) ∨ (5 ≤ i ∧ i < 9 ∧ adT B i = B + 48 + i) ∨ (10 ≤ i ∧ i < 34 ∧ adT B i = B + 5 + 2 * (i - 10)) ∨ (40 ≤ i ∧ i < 64 ∧ adT B i = B + 6 + 2 * (i - 40)) := by
  have h : i < 9 ∨ (10 ≤ i ∧ i < 34) ∨ (40 ≤ i ∧ i < 64) := h
  by_cases h1 : i < 5
  · exact Or.inl ⟨h1, adT_lo B h1⟩
  · by_cases h2 : i < 9
    · exact Or.inr (Or.inl ⟨by omega, h2, adT_mi B (by omega) h2⟩)
    · by_cases h3 : i < 34
      · exact Or.inr (Or.inr (Or.inl ⟨by omega, h3, adT_b B (by omega) (by omega)⟩))
      · exact Or.inr (Or.inr (Or.inr ⟨by omega, by omega, adT_c B (by omega)⟩))
theorem adT_inj (B : Nat) : ∀ i j, PT i → PT j → adT B i = adT B j → i = j := fun i j hi hj e => by
  rcases adT_cs B hi with ⟨a, b⟩ | ⟨a, b, c⟩ | ⟨a, b, c⟩ | ⟨a, b, c⟩ <;> rcases adT_cs B hj with ⟨a', b'⟩ | ⟨a', b', c'⟩ | ⟨a', b', c'⟩ | ⟨a', b', c'⟩ <;> omega
theorem adT_L (B : Nat) : adL (adT B) (B + 4) := ⟨adT_lo B (by omega), fun b hb => ⟨by rw [adT_b B (by omega) (by omega)]; omega, by rw [adT_c B (by omega)]; omega⟩, by rw [adT_mi B (by omega) (by omega)], by rw [adT_mi B (by omega) (by omega)], by rw [adT_mi B (by omega) (by omega)], by rw [adT_mi B (by omega) (by omega)]⟩
theorem adT_lt (B : Nat) {i : Nat} (h : PT i) : B ≤ adT B i ∧ adT B i < B + 57 := by
  rcases adT_cs B h with ⟨a, b⟩ | ⟨a, b, c⟩ | ⟨a, b, c⟩ | ⟨a, b, c⟩ <;> omega
end LSP
section LSW
variable {args : Array Value} {s : State}
theorem ar_of {ty : FieldType} (h : (Cond.arrayClass ty).before args s = true) : ∃ cA, ArrOfT s cA ty ∧ s.vm.findClass ("[" ++ ty.toString) = some cA := by
  obtain ⟨c, k, comp, h1, h2, h3⟩ := Cond.arrayClass_spec h
  exact ⟨c, fun n z => ⟨fun k h => (by cases h), k, h2, comp, h3⟩, h1⟩
theorem ao_of {C : String} (h : (Cond.arrayOver (.object C)).before args s = true) : ∃ cA, ArrOfT s cA (.object C) ∧ va_RA s cA (.object C) := by
  obtain ⟨comp, c, k, h1, h2, h3, h4, h5⟩ := Cond.arrayOver_spec h
  exact ⟨c, fun n z => ⟨fun k h => (by cases h), k, h3, comp, h4⟩, k, comp, h3, h4, h1, h5⟩
/-- the text that a constant of TornLog is -/
def lw_sa (s : State) (k : Nat) : Nat := match (Term.string R_Tl k).eval #[] s none [] s with
  | some (.ref a) => a
  | _ => 0
theorem lw_str {q : Nat × String} {cur : ClassId} (hcur : s.vm.findClass R_Tl = some cur) (h : (Cond.stringRef R_Tl q.1 q.2).before args s = true) : vk_R R_Tl q.1 q.2 (lw_sa s q.1) s := by
  obtain ⟨k, cf, i, a, -, -, -, -, -, hev⟩ := Cond.stringRef_spec hcur h
  have hz : vk_R R_Tl q.1 q.2 a s := vk_R.of h hev
  have e : lw_sa s q.1 = a := by unfold lw_sa; rw [hz.2]
  rw [e]; exact hz
end LSW
/-! the words of the start -/
theorem lw_wn : ∀ w ∈ nestW, w ∈ lw_tbl ∧ w.onTables = true := by decide +kernel
theorem lw_wb : ∀ w ∈ BW, w ∈ lw_tbl ∧ w.onTables = true := by decide +kernel
theorem lw_ws : ∀ q ∈ strW, Cond.stringRef R_Tl q.1 q.2 ∈ lw_tbl := by decide +kernel
theorem lw_wc : ∀ q ∈ ncL, Cond.not (.castable q.1 q.2) ∈ flatC (Jvm.Cond.and given_1 narrow_1) := by decide +kernel
theorem lw_words {b : Nat} {s : State} (hts : ∀ w ∈ lw_tbl, w.before #[Value.ref b] s = true) (hgv : (Jvm.Cond.and given_1 narrow_1).before #[Value.ref b] s = true) : ∃ (D : va_G) (cy : Nat → ClassId), KN D cy s ∧ va_AO R_Bk s ∧ KX (lw_sa s) s.heap.size s ∧ NC s := by
  have hg := flat_of_before _ hgv
  have htg : ∀ w ∈ TG, w.before #[Value.ref b] s = true := fun w h => hts w (tg_in h)
  obtain ⟨c0, i0, k0⟩ := u_known (C := R_Bk) (T := T_Bk) (N := 5) (n := 5) htg in_Bk (htg _ kn_Bk)
  obtain ⟨c1, i1, k1⟩ := u_known (C := R_By) (T := T_By) (N := 2) (n := 2) htg in_By (htg _ kn_By)
  obtain ⟨c2, i2, k2⟩ := u_known (C := R_Cu) (T := T_Cu) (N := 3) (n := 3) htg in_Cu (htg _ kn_Cu)
  obtain ⟨c3, i3, k3⟩ := u_known (C := R_Lg) (T := T_Lg) (N := 7) (n := 7) htg in_Lg (htg _ kn_Lg)
  obtain ⟨c4, i4, k4⟩ := u_known (C := R_Tl) (T := T_Tl) (N := 3) (n := 3) htg in_Tl (htg _ kn_Tl)
  obtain ⟨c5, i5, k5⟩ := u_known (C := R_Mo) (T := T_Mo) (N := 16) (n := 16) htg in_Mo (htg _ kn_Mo)
  obtain ⟨y0, a0, n0⟩ := ar_of (htg _ ka_byte)
  obtain ⟨y1, a1, n1⟩ := ar_of (htg _ ka_int)
  obtain ⟨y2, a2, n2⟩ := ar_of (htg _ ka_boolean)
  obtain ⟨y3, a3, n3⟩ := ar_of (htg _ ka_long)
  have hAO : (Cond.arrayOver (.object R_Bk)).before #[Value.ref b] s = true := hts _ (by decide +kernel)
  obtain ⟨y4, a4, n4⟩ := ao_of hAO
  refine ⟨(fun k => if k = 0 then c0 else if k = 1 then c1 else if k = 2 then c2 else if k = 3 then c3 else if k = 4 then c4 else c5, fun k => if k = 0 then i0 else if k = 1 then i1 else if k = 2 then i2 else if k = 3 then i3 else if k = 4 then i4 else i5),
    fun k => if k = 0 then y0 else if k = 1 then y1 else if k = 2 then y2 else if k = 3 then y3 else y4, ⟨⟨fun k q hq => ?_, fun k q hq => ?_⟩, fun k hk w hw => ?_⟩, va_AO.of hAO, ⟨fun w hw => ?_, fun q hq => ?_, ?_, ?_, Nat.le_refl _⟩, fun q hq => ?_⟩
  · match k, hq with
    | 0, hq => cases hq; exact k0
    | 1, hq => cases hq; exact k1
    | 2, hq => cases hq; exact k2
    | 3, hq => cases hq; exact k3
    | 4, hq => cases hq; exact k4
    | 5, hq => cases hq; exact k5
    | k + 6, hq => simp [vcl] at hq
  · match k, hq with
    | 0, hq => cases hq; exact ⟨a0, n0⟩
    | 1, hq => cases hq; exact ⟨a1, n1⟩
    | 2, hq => cases hq; exact ⟨a2, n2⟩
    | 3, hq => cases hq; exact ⟨a3, n3⟩
    | 4, hq => cases hq; exact ⟨a4, n4⟩
    | k + 5, hq => simp [tysW] at hq
  · have h := lw_wn w (List.mem_of_getElem? hw)
    exact va_Nw.of h.2 (hts _ h.1)
  · have h := lw_wb w hw
    exact va_Nw.of h.2 (hts _ h.1)
  · exact lw_str k4.2.1 (hts _ (lw_ws q hq))
  · exact vx_Zqof (hts (Cond.laysStatic Bundle.tN "UNASSIGNED_STACK" Bundle.steD) (by decide +kernel)) (hts (Cond.initialized Bundle.tN) (by decide +kernel)) (hg (Cond.isRef (.static Bundle.tN "UNASSIGNED_STACK" Bundle.steD)) (by decide +kernel)) (fun a h => Nat.not_le.mpr h)
  · exact vx_Zqof (hts (Cond.laysStatic Bundle.tN "SUPPRESSED_SENTINEL" Bundle.listD) (by decide +kernel)) (hts (Cond.initialized Bundle.tN) (by decide +kernel)) (hg (Cond.isRef (.static Bundle.tN "SUPPRESSED_SENTINEL" Bundle.listD)) (by decide +kernel)) (fun a h => Nat.not_le.mpr h)
  · exact va_Nc.of (hg _ (lw_wc q hq))
set_option maxRecDepth 100000 in
set_option maxHeartbeats 4000000 in
/-- the law, from its entry -/
theorem whole_start {p : Program} {e : Env} {s : State} {m : MethodId} {below : List Frame} {meth : Method} {c : Code} (l : Launch) (hl0 : l.stackTraces = false) {b L : Nat} {xs : Nat → Int32} (hL : L ≤ 3072) (C0 : lw_At p s m meth c b L xs) : W p l e room_1 s m #[Value.ref b] below meth c s.heap [] 0 0 (lw_Z below #[Value.ref b] s) (entryFrame m ([Value.ref b] : List Value).toArray 8) := by
  obtain ⟨hx, hb, hr, hml, hown, hts, hS0, hbl, hlk, hgv⟩ := C0
  obtain ⟨D, cy, hK, hAO, hX, hNC⟩ := lw_words hts hgv
  have htg : ∀ w ∈ TG, w.before #[Value.ref b] s = true := fun w h => hts w (tg_in h)
  have F : CallFix p m c code 8 s #[Value.ref b] TG R_Lw := ⟨hx, hb, hml, hown, htg⟩
  have hown : s.vm.findClass R_Lw = some m.cls := hown
  have hS : va_S (fun q : Nat => s.heap.size ≤ q) s.heap s.heap [] := va_S.rf
  have hl := lv_entry ([.ref b]) (n := 8) (Nat.le_of_ble_eq_true rfl)
  rw [lg_entry_eq]
  generalize (lg_sl ([.ref b]) ++ List.replicate (8 - (lg_sl ([.ref b])).length) Slot.unset).toArray = ls at hl ⊢
  have hl : lv_has ls 8 [(0, .ref b)] := hl
  obtain ⟨B, hB⟩ : ∃ B, s.heap.size = B := ⟨_, rfl⟩
  have hsub : ∀ q, B ≤ q → s.heap.size ≤ q := fun q h => by rw [hB]; exact h
  refine ns_newo (D := D) (cl := vcl) (ci := 4) (C := R_Tl) (T := T_Tl) (N := 3) (fs := [.null, .null, .int (bI false)]) hx hb htg in_Tl ty_Tl tk_Tl hown (htg _ kl_Lw_8) (htg _ kn_Tl) (htg _ k0_Tl) hK.k hS rfl (fun j hj => by rcases (show j = 0 ∨ j = 1 ∨ j = 2 by omega) with rfl | rfl | rfl <;> rfl) (Nat.le_of_ble_eq_true rfl) (Nat.le_of_ble_eq_true rfl) d_Lw_law_0 (a := adT B 0) (by have := adT_lo B (i := 0) (by omega); omega) (fun H1 z1 hat1 hk1 hS1 => ?_)
  rw [hB] at z1
  refine W.widen (k := 1) (n := 3) (Nat.le_of_ble_eq_true rfl) (Nat.le_of_ble_eq_true rfl) ?_
  refine lv_dup hx hb d_Lw_law_3 rfl ?_
  have hP1 : nw D vcl lt1 (adT B) (tlW cy (adT B) [.null, .null, .int (bI false)] .null [.null, .null, .int (nI 0), .int (bI false), .int (nI 0), .null, .null] 0 .null) H1 := nw_1 rfl rfl hat1
  refine call_C (As := []) (rest := [.ref (adT B 0)]) F hK hAO (c_Tl_init l D cy (adT B) H1.size (by have := adT_lo B (i := 1) (by omega); omega) (by have := adT_lo B (i := 2) (by omega); omega) (by have := adT_lo B (i := 3) (by omega); omega) (by rw [z1]; exact adT_L B) (adT_inj B)) km_Lw_49 rfl ki_Tl_init k0_Tl kc_Tl_init kd_Tl_init ⟨(Nat.le_of_ble_eq_true rfl), (Nat.le_of_ble_eq_true rfl)⟩ hP1 (fun i j hi hj _ => by have hi : i < 1 := hi; have hj : j < 1 := hj; omega) hl.1 rfl (Nat.le_of_ble_eq_true rfl) d_Lw_law_4 ⟨(Nat.le_of_ble_eq_true rfl), (Nat.le_of_ble_eq_true rfl)⟩ hS1 (fun q h => h.elim (fun ⟨i, hi, e⟩ => hsub q (by rw [e]; have hi : i < 1 := hi; exact (adT_lt B (i := i) (Or.inl (by omega))).1)) (fun h => hsub q (by rw [z1] at h; exact Nat.le_trans (by omega) h))) (fun H2 locs2 hP2 z2 hk2 hS2 => ?_)
  rw [z1] at z2
  refine W.widen (k := 57) (n := 2299) (Nat.le_of_ble_eq_true rfl) (Nat.le_of_ble_eq_true rfl) ?_
  refine lv_astore_n (lv' := [(1, .ref (adT B 0)), (0, .ref b)]) hx hb d_Lw_law_7 rfl hl (by decide) rfl (fun ls hl => ?_)
  refine ns_newo (D := D) (cl := vcl) (ci := 5) (C := R_Mo) (T := T_Mo) (N := 16) (fs := [.int (nI 0), .int (bI false), .null, .int (nI 0), .int (bI false), .int (nI 0), .int (nI 0), .null, .null, .null, .null, .null, .int (nI 0), .int (nI 0), .null, .int (nI 0)]) hx hb htg in_Mo ty_Mo tk_Mo hown (htg _ kl_Lw_50) (htg _ kn_Mo) (htg _ k0_Mo) hK.k hS2 rfl (fun j hj => by rcases (show j = 0 ∨ j = 1 ∨ j = 2 ∨ j = 3 ∨ j = 4 ∨ j = 5 ∨ j = 6 ∨ j = 7 ∨ j = 8 ∨ j = 9 ∨ j = 10 ∨ j = 11 ∨ j = 12 ∨ j = 13 ∨ j = 14 ∨ j = 15 by omega) with rfl | rfl | rfl | rfl | rfl | rfl | rfl | rfl | rfl | rfl | rfl | rfl | rfl | rfl | rfl | rfl <;> rfl) (Nat.le_of_ble_eq_true rfl) (Nat.le_of_ble_eq_true rfl) d_Lw_law_8 (a := amT B 0) (by show B + 57 + 0 = _; omega) (fun H3 z3 hat3 hk3 hS3 => ?_)
  rw [z2] at z3
  refine W.widen (k := 58) (n := 2315) (Nat.le_of_ble_eq_true rfl) (Nat.le_of_ble_eq_true rfl) ?_
  refine lv_dup hx hb d_Lw_law_11 rfl ?_
  have hP3 : nw D vcl lt1 (amT B) (mdW cy (amT B) [.int (nI 0), .int (bI false), .null, .int (nI 0), .int (bI false), .int (nI 0), .int (nI 0), .null, .null, .null, .null, .null, .int (nI 0), .int (nI 0), .null, .int (nI 0)]) H3 := nw_1 rfl mdW_at hat3
  have hT3 := nw_keep hP2 (H1 := H3) (A := fun q => H2.size ≤ q) (fun q h _ => hk3 q h) (fun i hi => Nat.not_le.mpr (nw_lt hP2 hi))
  have hmi : ∀ i j, i < 8 → j < 8 → amT B i = amT B j → i = j := fun i j _ _ h => by unfold amT at h; omega
  refine call_C (As := []) (rest := [.ref (amT B 0)]) F hK hAO (c_Mo_init l D cy (amT B) H3.size (fun i h1 h2 => by rw [z3]; unfold amT; omega) hmi) km_Lw_52 rfl ki_Mo_init k0_Mo kc_Mo_init kd_Mo_init ⟨(Nat.le_of_ble_eq_true rfl), (Nat.le_of_ble_eq_true rfl)⟩ hP3 (fun i j hi hj _ => by have hi : i < 1 := hi; have hj : j < 1 := hj; omega) hl.1 rfl (Nat.le_of_ble_eq_true rfl) d_Lw_law_12 ⟨(Nat.le_of_ble_eq_true rfl), (Nat.le_of_ble_eq_true rfl)⟩ hS3 (fun q h => h.elim (fun ⟨i, hi, e⟩ => hsub q (by rw [e]; unfold amT; omega)) (fun h => hsub q (by rw [z3] at h; exact Nat.le_trans (by omega) h))) (fun H4 locs4 hP4 z4 hk4 hS4 => ?_)
  rw [z3] at z4
  refine W.widen (k := 65) (n := 52455) (Nat.le_of_ble_eq_true rfl) (Nat.le_of_ble_eq_true rfl) ?_
  have hT4 := nw_keep hT3 hk4 (fun i hi h => h.elim (fun ⟨j, hj, e⟩ => by have hj : j < 1 := hj; have := (adT_lt B hi).2; unfold amT at e; omega) (fun h => by rw [z3] at h; have := (adT_lt B hi).2; omega))
  refine lv_astore_n (lv' := [(2, .ref (amT B 0)), (1, .ref (adT B 0)), (0, .ref b)]) hx hb d_Lw_law_15 rfl hl (by decide) rfl (fun ls hl => ?_)
  refine lv_iconst (v := nI 1) hx hb d_Lw_law_16 (by decide) ?_
  refine ns_newr (D := D) (cl := vcl) (atype := .long) hx hb (htg _ ka_long) (ty := .long) rfl hS4 (hK.k.2 3 _ rfl).2 (N' := 1) (a0 := (1, .inr (.inl (fun _ => 0)))) (fun _ => rfl) (by decide) (by decide) (by decide) (Nat.le_of_ble_eq_true rfl) (Nat.le_of_ble_eq_true rfl) d_Lw_law_17 (a := B + 65) (by rw [z4]) (fun H5 z5 hat5 hk5 hS5 => ?_)
  rw [z4] at z5
  refine W.widen (k := 66) (n := 52456) (Nat.le_of_ble_eq_true rfl) (Nat.le_of_ble_eq_true rfl) ?_
  have hO5 : nwo D cy (B + 65) 0 H5 := fun i _ => hat5
  have hT5 := nw_keep hT4 (H1 := H5) (A := fun q => H4.size ≤ q) (fun q h _ => hk5 q h) (fun i hi => Nat.not_le.mpr (nw_lt hT4 hi))
  have hM5 := nw_keep hP4 (H1 := H5) (A := fun q => H4.size ≤ q) (fun q h _ => hk5 q h) (fun i hi => Nat.not_le.mpr (nw_lt hP4 hi))
  refine lv_astore_n (lv' := [(3, .ref (B + 65)), (2, .ref (amT B 0)), (1, .ref (adT B 0)), (0, .ref b)]) hx hb d_Lw_law_19 rfl hl (by decide) rfl (fun ls hl => ?_)
  refine lv_iconst (v := nI 0) hx hb d_Lw_law_20 (by decide) ?_
  refine lv_istore (lv' := [(4, .int (nI 0)), (3, .ref (B + 65)), (2, .ref (amT B 0)), (1, .ref (adT B 0)), (0, .ref b)]) hx hb d_Lw_law_21 hl (by decide) rfl (fun ls hl => ?_)
  have hI : LWI D cy s.heap.size (fun ad => tlC cy ad (fun _ => 0) 0 false (fun _ => 0) 0 false 0 false 0 0 (fun _ => 0) 0 (fun _ => 0) (fun _ _ => 0) (fun _ => 0) (fun _ => 0) (fun _ => 6)) (fun am => mdC cy am 0 false (fun _ => 0) 0 false 0 0 (fun _ => 0) (fun _ => 0) (fun _ => false) (fun _ => 0) (fun _ => 0) 0 none (fun _ => 0) 0) (adT B) (amT B) (B + 65) 0 H5 := by
    refine ⟨⟨hT5, hM5, hO5⟩, ⟨adT_inj B, hmi⟩, ⟨fun i j hi hj e => ?_, fun i hi e => ?_, fun j hj e => ?_⟩, fun i hi => ?_, fun j hj => ?_, ?_⟩
    · have := (adT_lt B hi).2; unfold amT at e; omega
    · have := (adT_lt B hi).2; omega
    · have hj : j < 8 := hj; unfold amT at e; omega
    · rw [hB]; exact (adT_lt B hi).1
    · rw [hB]; unfold amT; omega
    · rw [hB]; omega
  exact law_loop F hK hX hNC hl0 hS0 hbl hL hr hlk (L / 6) 0 (Nat.zero_add _) _ _ 0 (adT B) 0 H5 _ ls (REL.mk INV_0) hI hS5 (lv_sub hl [4, 3, 2, 1, 0] rfl)

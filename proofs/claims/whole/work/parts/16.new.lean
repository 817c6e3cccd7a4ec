/-! what is made: a new cell under the name i (in place of the old one of that name, if there was one) -/
theorem nd_new {D : va_G} {cl : List vw_C} {A P P' : Nat → Prop} {ad : Nat → Nat} {ct : Nat → va_E} {H : Heap} (hP : nw D cl P ad ct H) (hD : nd A P ad) {i q : Nat} (hq : H.size ≤ q) (hA : A q) (hP' : ∀ j, P' j → j ≠ i → P j) : nd A P' (va_up ad i q) := by
  refine ⟨fun j k hj hk h => ?_, fun j hj => ?_⟩
  · by_cases h1 : j = i
    · by_cases h2 : k = i
      · rw [h1, h2]
      · rw [h1, va_up_self, va_up_ne _ _ h2] at h
        have := nw_lt hP (hP' k hk h2)
        omega
    · by_cases h2 : k = i
      · rw [h2, va_up_self, va_up_ne _ _ h1] at h
        have := nw_lt hP (hP' j hj h1)
        omega
      · rw [va_up_ne _ _ h1, va_up_ne _ _ h2] at h
        exact hD.1 j k (hP' j hj h1) (hP' k hk h2) h
  · by_cases h1 : j = i
    · rw [h1, va_up_self]; exact hA
    · rw [va_up_ne _ _ h1]; exact hD.2 j (hP' j hj h1)
theorem nw_new {D : va_G} {cl : List vw_C} {P P' : Nat → Prop} {ad : Nat → Nat} {ct : Nat → va_E} {H H1 : Heap} (hP : nw D cl P ad ct H) {i q : Nat} {x : va_E} (hat : va_at D cl (q, x) H1) (hk : ∀ q : Nat, q < H.size → H1[q]? = H[q]?) (hP' : ∀ j, P' j → j ≠ i → P j) : nw D cl P' (va_up ad i q) (va_up ct i x) H1 := by
  intro j hj
  by_cases h1 : j = i
  · rw [h1, va_up_self, va_up_self]; exact hat
  · rw [va_up_ne _ _ h1, va_up_ne _ _ h1]
    exact (hP j (hP' j hj h1)).kept (hk _ (nw_lt hP (hP' j hj h1)))
theorem va_up_id {α : Type} (f : Nat → α) (k : Nat) : va_up f k (f k) = f := by
  funext j
  by_cases h : j = k <;> simp [va_up, h]
section NEW
variable {p : Program} {l : Launch} {e : Env} {R : Room} {s : State} {m : MethodId} {args : Array Value} {below : List Frame} {meth : Method} {c : Code} {H : Heap} {locs : List Loc} {cells slots : Nat} {Q : State → Prop}
variable {cc : ByteArray} {pc : Nat} {ls : Array Slot} {rest : List Value} {D : va_G} {cl : List vw_C} {A : Nat → Prop} {tys : List (ClassId × FieldType)} {H0 : Heap} {P : Nat → Prop} {ad : Nat → Nat} {ct : Nat → va_E}
theorem nw_newr (hexec : p.tables.exec = Jvm.exec) (hb : c.code = cc) {atype : ArrayType} (harr : (Cond.arrayClass (newarray.typeOf atype)).before args s = true) {ty : FieldType} (hty : newarray.typeOf atype = ty) (hP : nw D cl P ad ct H) (hD : nd A P ad) (hS : va_S A H0 H locs) (hA : ∀ q, H0.size ≤ q → A q) {cA : ClassId} (hcA : s.vm.findClass ("[" ++ ty.toString) = some cA)
    {n : Int32} {N' : Nat} {a0 : vp_A} (ha : ∀ cA : ClassId, vp_cell cA a0 = arrV cA N' (fun _ => defaultValue ty)) (hn : ¬ n < 0) (hN : n.toNatClampNeg = N') (hbytes : N' * componentBytes ty ≤ 536870912) (hcells : cells + 1 ≤ R.cells) (hslots : slots + N' ≤ R.slots) (hdg : decode cc pc = .ok (.newarray atype, 2)) (i : Nat) (P' : Nat → Prop) (hP' : ∀ j, P' j → j ≠ i → P j)
    (kk : ∀ (q : Nat) (H1 : Heap), H.size ≤ q → nw D cl P' (va_up ad i q) (va_up ct i (.inl (cA, a0))) H1 → nd A P' (va_up ad i q) → va_S A H0 H1 locs → W p l e R s m args below meth c H1 locs (cells + 1) (slots + N') Q (F0 m (pc + 2) ls (.ref q :: rest))) : W p l e R s m args below meth c H locs cells slots Q (F0 m pc ls (.int n :: rest)) := by
  subst hty
  refine va_newaK hexec hb harr rfl hdg rfl hn hN hbytes hcells hslots rfl fun H1 cA' e1 z1 o1 hAr hNm => ?_
  obtain rfl : cA' = cA := Option.some.inj (hNm.symm.trans hcA)
  refine kk H.size H1 (Nat.le_refl _) (nw_new hP ?_ o1 hP') (nd_new hP hD (Nat.le_refl _) (hA _ hS.1) hP') ⟨Nat.le_trans hS.1 (by omega), fun x h1 h2 => (o1 x (Nat.lt_of_lt_of_le h1 hS.1)).trans (hS.2.1 x h1 h2), hS.2.2⟩
  show H1[H.size]? = some (vp_cell _ _)
  rw [ha]
  exact e1
theorem nw_newo (hexec : p.tables.exec = Jvm.exec) (hb : c.code = cc) {own C : String} {T : u_T} {N ci index : Nat} {Ts : List Cond} (hts : ∀ w ∈ Ts, w.before args s = true) (hin : ∀ w ∈ u_ws C T N, w ∈ Ts) (ty : Nat → FieldType) (hty : ∀ k, k < N → parseFieldDescriptor (T k).2.2.1 = some (ty k)) (hown : s.vm.findClass own = some m.cls) (hcl : (Cond.classLink own index C).before args s = true) (hinst : (Cond.instantiable C N).before args s = true) (hini : (Cond.initialized C).before args s = true)
    (hK : va_K D cl tys s) (hP : nw D cl P ad ct H) (hD : nd A P ad) (hS : va_S A H0 H locs) (hA : ∀ q, H0.size ≤ q → A q) (hc : cl[ci]? = some (C, T, N)) {fs : List Value} (hfs : ∀ j, j < N → defaultValue (ty j) = vp_V fs j) (hcells : cells + 1 ≤ R.cells) (hslots : slots + N ≤ R.slots) (hdg : decode cc pc = .ok (.new index, 3)) (i : Nat) (P' : Nat → Prop) (hP' : ∀ j, P' j → j ≠ i → P j)
    (kk : ∀ (q : Nat) (H1 : Heap), H.size ≤ q → nw D cl P' (va_up ad i q) (va_up ct i (.inr (ci, fs))) H1 → nd A P' (va_up ad i q) → va_S A H0 H1 locs → W p l e R s m args below meth c H1 locs (cells + 1) (slots + N) Q (F0 m (pc + 3) ls (.ref q :: rest))) : W p l e R s m args below meth c H locs cells slots Q (F0 m pc ls rest) := by
  have hKn := hK.1 ci _ hc
  refine W.newcK hexec hb hown hcl hinst hini rfl hdg hcells hslots hKn.2.1 rfl fun H1 kC hkC e1 z1 o1 => ?_
  exact kk H.size H1 (Nat.le_refl _) (nw_new hP ⟨_, hc, (u_born ty hts hin hKn hkC e1 hty).to hfs⟩ o1 hP') (nd_new hP hD (Nat.le_refl _) (hA _ hS.1) hP') ⟨Nat.le_trans hS.1 (by omega), fun x h1 h2 => (o1 x (Nat.lt_of_lt_of_le h1 hS.1)).trans (hS.2.1 x h1 h2), hS.2.2⟩
theorem nw_newq (hexec : p.tables.exec = Jvm.exec) (hb : c.code = cc) {own C : String} {index : Nat} (hown : s.vm.findClass own = some m.cls) (hclink : (Cond.classLink own index C).before args s = true) (hover : va_AO C s) (hP : nw D cl P ad ct H) (hD : nd A P ad) (hS : va_S A H0 H locs) (hA : ∀ q, H0.size ≤ q → A q) {cA : ClassId} (hcA : s.vm.findClass ("[" ++ (FieldType.object C).toString) = some cA)
    {n : Int32} {N' : Nat} (hn : ¬ n < 0) (hN : n.toNatClampNeg = N') (hbytes : N' * 4 ≤ 536870912) (hcells : cells + 1 ≤ R.cells) (hslots : slots + N' ≤ R.slots) (hdg : decode cc pc = .ok (.anewarray index, 3)) (i : Nat) (P' : Nat → Prop) (hP' : ∀ j, P' j → j ≠ i → P j)
    (kk : ∀ (q : Nat) (H1 : Heap), H.size ≤ q → nw D cl P' (va_up ad i q) (va_up ct i (.inl (cA, N', .inr (.inr (.inr (.inr (fun _ => none))))))) H1 → nd A P' (va_up ad i q) → va_S A H0 H1 locs → W p l e R s m args below meth c H1 locs (cells + 1) (slots + N') Q (F0 m (pc + 3) ls (.ref q :: rest))) : W p l e R s m args below meth c H locs cells slots Q (F0 m pc ls (.int n :: rest)) := by
  subst hN
  refine W.anew hexec hb hown hclink (va_AO.use hover) rfl hdg rfl hn hbytes hcells hslots fun cA' kA comp f1 f2 f3 f4 => ?_
  obtain rfl : cA' = cA := Option.some.inj (f1.symm.trans hcA)
  generalize hH1 : H.push ({ cls := cA', slots := Array.replicate n.toNatClampNeg .null, vm := .none } : Cell) = H1
  have z1 : H1.size = H.size + 1 := by rw [← hH1, Array.size_push]
  have e1 : H1[H.size]? = some (arrV cA' n.toNatClampNeg (fun _ => .null)) := by rw [← hH1, Array.getElem?_push_size, ← arrV_new]
  have o1 : ∀ q : Nat, q < H.size → H1[q]? = H[q]? := fun q hq => by rw [← hH1, Array.getElem?_push, if_neg (Nat.ne_of_lt hq)]
  refine kk H.size H1 (Nat.le_refl _) (nw_new hP ?_ o1 hP') (nd_new hP hD (Nat.le_refl _) (hA _ hS.1) hP') ⟨Nat.le_trans hS.1 (by omega), fun x h1 h2 => (o1 x (Nat.lt_of_lt_of_le h1 hS.1)).trans (hS.2.1 x h1 h2), hS.2.2⟩
  show H1[H.size]? = some (vp_cell _ _)
  rw [vp_cell_q]
  exact e1
theorem nw_aast (hexec : p.tables.exec = Jvm.exec) (hb : c.code = cc) (hK : va_K D cl tys s) (hP : nw D cl P ad ct H) (hD : nd A P ad) (hS : va_S A H0 H locs) {i : Nat} (hi : P i) {cA : ClassId} {r : vw_C} {n k ci : Nat} {vs : List Value} {f : Nat → Option Nat} (he : ct i = .inl (cA, n, .inr (.inr (.inr (.inr f))))) (t0 : Nat) (ht : tys[t0]? = some (cA, .object r.1)) (hk : P k) (hv : ct k = .inr (ci, vs)) (hc : cl[ci]? = some r) {j : Int32} (hin : vp_in j n) (hdg : decode cc pc = .ok (.aastore, 1))
    (kk : ∀ (H1 : Heap) (locs1 : List Loc), nw D cl P ad (va_up ct i (.inl (cA, n, .inr (.inr (.inr (.inr (va_up f j.toNatClampNeg (some (ad k))))))))) H1 → va_S A H0 H1 locs1 → W p l e R s m args below meth c H1 locs1 cells slots Q (F0 m (pc + 1) ls rest)) : W p l e R s m args below meth c H locs cells slots Q (F0 m pc ls (.ref (ad k) :: .int j :: .ref (ad i) :: rest)) := by
  have hlt : j.toNatClampNeg < n := Nat.not_le.mp fun q => hin (Or.inr q)
  have h0 : ¬ j < 0 := fun q => hin (Or.inl q)
  have hat := hP i hi
  rw [he] at hat
  have hat2 := hP k hk
  rw [hv] at hat2
  obtain ⟨r', hr', cellV, g1, g2, g3, -⟩ := hat2
  have hcls := (hK.1 ci r hc).2
  obtain ⟨kA, comp, k1, k2, k3, -⟩ := (hK.2 t0 _ ht).2
  have hcomp : comp = D.1 ci := Option.some.inj (k3.symm.trans hcls.1)
  subst hcomp
  obtain ⟨kC, hkC, -⟩ := hcls.2
  refine W.aast hexec hb hat (fun q h => by cases h) (fun h => by cases h) k1 k2 rfl hkC ⟨h0, by show _ < (arrV _ _ _).slots.size; rw [arrV_size]; exact hlt⟩ g1 (fun q h => by rw [g3] at h; cases h) (by rw [g2]; exact hkC) (by rw [g2]; exact va_assign hcls) rfl rfl hdg fun H1 e z oq => ?_
  refine kk H1 _ (nw_set hP hD hi ?_ oq) (hS.put z oq (hD.2 i hi))
  show H1[ad i]? = some (vp_cell _ _)
  rw [e]
  rw [vp_cell_q, vp_cell_q, arrV_store]
  congr 2
  funext q
  by_cases hq : q = j.toNatClampNeg
  · subst hq
    simp [updV, va_up, va_rf]
  · simp [updV, va_up, hq]
end NEW

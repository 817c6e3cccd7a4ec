/-! WORLDS BY NAMES: every cell of a component has a fixed number i; ad i is its address, ct i what lies there -/
def nw (D : va_G) (cl : List vw_C) (P : Nat → Prop) (ad : Nat → Nat) (ct : Nat → va_E) (H : Heap) : Prop := ∀ i, P i → va_at D cl (ad i, ct i) H
def nd (A : Nat → Prop) (P : Nat → Prop) (ad : Nat → Nat) : Prop := (∀ i j, P i → P j → ad i = ad j → i = j) ∧ ∀ i, P i → A (ad i)
/-- which cells a method may change: its world's, and those that it makes -/
def na (P : Nat → Prop) (ad : Nat → Nat) (sz : Nat) : Nat → Prop := fun q => (∃ i, P i ∧ q = ad i) ∨ sz ≤ q
theorem nd_self {P : Nat → Prop} {ad : Nat → Nat} {sz : Nat} (h : ∀ i j, P i → P j → ad i = ad j → i = j) : nd (na P ad sz) P ad := ⟨h, fun i hi => Or.inl ⟨i, hi, rfl⟩⟩
theorem nw_one {D : va_G} {cl : List vw_C} {P : Nat → Prop} {ad : Nat → Nat} {ct : Nat → va_E} {H : Heap} (h : nw D cl P ad ct H) {i : Nat} (hi : P i) {e : va_E} (he : ct i = e) : va_P D cl [(ad i, e)] H := by
  intro k q hk
  match k, hk with
  | 0, hk => cases hk; rw [← he]; exact h i hi
theorem nw_lt {D : va_G} {cl : List vw_C} {P : Nat → Prop} {ad : Nat → Nat} {ct : Nat → va_E} {H : Heap} (h : nw D cl P ad ct H) {i : Nat} (hi : P i) : ad i < H.size := (h i hi).lt
theorem nw_set {D : va_G} {cl : List vw_C} {A P : Nat → Prop} {ad : Nat → Nat} {ct : Nat → va_E} {H H1 : Heap} (h : nw D cl P ad ct H) (hd : nd A P ad) {i : Nat} {e : va_E} (hi : P i) (hat : va_at D cl (ad i, e) H1) (oq : ∀ q : Nat, q ≠ ad i → H1[q]? = H[q]?) : nw D cl P ad (va_up ct i e) H1 := by
  intro j hj
  by_cases hji : j = i
  · subst hji
    rw [va_up_self]
    exact hat
  · rw [va_up_ne _ _ hji]
    exact (h j hj).kept (oq _ (fun q => hji (hd.1 j i hj hi q)))
theorem nw_congr {D : va_G} {cl : List vw_C} {P : Nat → Prop} {ad : Nat → Nat} {ct ct' : Nat → va_E} {H : Heap} (h : nw D cl P ad ct H) (he : ∀ i, P i → ct i = ct' i) : nw D cl P ad ct' H := fun i hi => by rw [← he i hi]; exact h i hi
/-- a part of a world, under other numbers -/
theorem nw_sub {D : va_G} {cl : List vw_C} {P P' : Nat → Prop} {ad : Nat → Nat} {ct ct' : Nat → va_E} {H : Heap} (h : nw D cl P ad ct H) (g : Nat → Nat) (hg : ∀ i, P' i → P (g i) ∧ ct (g i) = ct' i) : nw D cl P' (fun i => ad (g i)) ct' H := fun i hi => by rw [← (hg i hi).2]; exact h (g i) (hg i hi).1
theorem nd_sub {A P P' : Nat → Prop} {ad : Nat → Nat} (h : nd A P ad) (g : Nat → Nat) (hg : ∀ i, P' i → P (g i)) (hi : ∀ i j, P' i → P' j → g i = g j → i = j) : ∀ i j, P' i → P' j → ad (g i) = ad (g j) → i = j := fun i j h1 h2 h3 => hi i j h1 h2 (h.1 _ _ (hg i h1) (hg j h2) h3)
/-- behind a call that kept the addresses: the callee's cells as it left them, the rest as before -/
theorem nw_join {D : va_G} {cl : List vw_C} {A P P' : Nat → Prop} {ad : Nat → Nat} {ct ct1 ct2 : Nat → va_E} {H H1 : Heap} (h : nw D cl P ad ct H) (hd : nd A P ad) (g : Nat → Nat) (hg : ∀ i, P' i → P (g i)) (hk : ∀ q : Nat, q < H.size → ¬ na P' (fun i => ad (g i)) H.size q → H1[q]? = H[q]?)
    (h1 : nw D cl P' (fun i => ad (g i)) ct1 H1) (e1 : ∀ i, P' i → ct2 (g i) = ct1 i) (e2 : ∀ j, P j → (∀ i, P' i → j ≠ g i) → ct2 j = ct j) : nw D cl P ad ct2 H1 := by
  intro j hj
  by_cases hx : ∃ i, P' i ∧ j = g i
  · obtain ⟨i, hi, rfl⟩ := hx
    rw [e1 i hi]
    exact h1 i hi
  · have hn : ∀ i, P' i → j ≠ g i := fun i hi q => hx ⟨i, hi, q⟩
    rw [e2 j hj hn]
    refine (h j hj).kept (hk _ (h j hj).lt (fun q => ?_))
    rcases q with ⟨i, hi, q⟩ | q
    · exact hn i hi (hd.1 j (g i) hj (hg i hi) q)
    · exact absurd (h j hj).lt (Nat.not_lt.mpr q)
theorem na_sub {A P P' : Nat → Prop} {ad : Nat → Nat} {H0 H : Heap} {locs : List Loc} (hd : nd A P ad) (hS : va_S A H0 H locs) (hA : ∀ q, H0.size ≤ q → A q) (g : Nat → Nat) (hg : ∀ i, P' i → P (g i)) : ∀ q, na P' (fun i => ad (g i)) H.size q → A q := by
  intro q h
  rcases h with ⟨i, hi, rfl⟩ | h
  · exact hd.2 _ (hg i hi)
  · exact hA q (Nat.le_trans hS.1 h)
theorem nw_recv {s : State} {H : Heap} {D : va_G} {cl : List vw_C} {P : Nat → Prop} {ad : Nat → Nat} {ct : Nat → va_E} {tys : List (ClassId × FieldType)} (hK : va_K D cl tys s) (hP : nw D cl P ad ct H) {i ci : Nat} {q : vw_C} {fs : List Value} (hi : P i) (he : ct i = .inr (ci, fs)) (hc : cl[ci]? = some q) : ∃ cell : Cell, H[ad i]? = some cell ∧ cell.vm.isStatics = false ∧ s.vm.findClass q.1 = some cell.cls :=
  va_recv hK (nw_one hP hi he) (q0 := 0) hc rfl
section NWR
variable {p : Program} {l : Launch} {e : Env} {R : Room} {s : State} {m : MethodId} {args : Array Value} {below : List Frame} {meth : Method} {c : Code} {H : Heap} {locs : List Loc} {cells slots : Nat} {Q : State → Prop}
variable {cc : ByteArray} {pc : Nat} {ls : Array Slot} {rest : List Value} {D : va_G} {cl : List vw_C} {A : Nat → Prop} {tys : List (ClassId × FieldType)} {H0 : Heap} {P : Nat → Prop} {ad : Nat → Nat} {ct : Nat → va_E}
theorem nw_get (hexec : p.tables.exec = Jvm.exec) (hb : c.code = cc) {own C : String} {T : u_T} {N ci index : Nat} {Ts : List Cond} (hts : ∀ w ∈ Ts, w.before args s = true) (hin : ∀ w ∈ u_ws C T N, w ∈ Ts) (hown : s.vm.findClass own = some m.cls) (hK : va_K D cl tys s) (hP : nw D cl P ad ct H) {i : Nat} (hi : P i) {fs : List Value} (he : ct i = .inr (ci, fs)) (hc : cl[ci]? = some (C, T, N)) (k : Nat) (hk : k < N) (hlink : (Cond.fieldLink own index (T k).1 (T k).2.1 (T k).2.2.1).before args s = true) {v : Value} (hv : fs[k]? = some v) (hdg : decode cc pc = .ok (.getfield index, 3))
    (kk : W p l e R s m args below meth c H locs cells slots Q (F0 m (pc + 3) ls (v :: rest))) : W p l e R s m args below meth c H locs cells slots Q (F0 m pc ls (.ref (ad i) :: rest)) :=
  va_get (D := D) hexec hb hts hin hown hK (nw_one hP hi he) 0 rfl hc k hk hlink (fun _ h => h) hv hdg kk
theorem nw_getN (hexec : p.tables.exec = Jvm.exec) (hb : c.code = cc) {own C host : String} {T : u_T} {N ci index : Nat} {Ts : List Cond} (hts : ∀ w ∈ Ts, w.before args s = true) (hin : ∀ w ∈ u_ws C T N, w ∈ Ts) (hown : s.vm.findClass own = some m.cls) (hK : va_K D cl tys s) (hP : nw D cl P ad ct H) {i : Nat} (hi : P i) {fs : List Value} (he : ct i = .inr (ci, fs)) (hc : cl[ci]? = some (C, T, N)) (k : Nat) (hk : k < N) (hlink : va_Nw (.fieldLinkNest own index (T k).1 (T k).2.1 (T k).2.2.1 host) s) {v : Value} (hv : fs[k]? = some v) (hdg : decode cc pc = .ok (.getfield index, 3))
    (kk : W p l e R s m args below meth c H locs cells slots Q (F0 m (pc + 3) ls (v :: rest))) : W p l e R s m args below meth c H locs cells slots Q (F0 m pc ls (.ref (ad i) :: rest)) :=
  va_getN (D := D) hexec hb hts hin hown hK (nw_one hP hi he) 0 rfl hc k hk (va_Nw.use rfl hlink) (fun _ h => h) hv hdg kk
theorem nw_put (hexec : p.tables.exec = Jvm.exec) (hb : c.code = cc) {own C : String} {T : u_T} {N ci index : Nat} {Ts : List Cond} (hts : ∀ w ∈ Ts, w.before args s = true) (hin : ∀ w ∈ u_ws C T N, w ∈ Ts) (ty0 : Nat → FieldType) (hty : ∀ k, k < N → parseFieldDescriptor (T k).2.2.1 = some (ty0 k)) (hnm : ∀ a, a < N → ∀ b, b < N → a ≠ b → (T a).2.1 ≠ (T b).2.1) (hown : s.vm.findClass own = some m.cls) (hK : va_K D cl tys s) (hP : nw D cl P ad ct H) (hD : nd A P ad) (hS0 : va_S A H0 H locs) {i : Nat} (hi : P i) {fs : List Value} (he : ct i = .inr (ci, fs)) (hc : cl[ci]? = some (C, T, N)) (k : Nat) (hk : k < N) (hlink : (Cond.fieldLink own index (T k).1 (T k).2.1 (T k).2.2.1).before args s = true) (hfin : (T k).2.2.2 = false) {v : Value} (hn : narrow (ty0 k) v = v) (hfit : fits (ty0 k) v = true) (hl : k < fs.length)
    (hdg : decode cc pc = .ok (.putfield index, 3)) (kk : ∀ (H1 : Heap) (locs1 : List Loc), nw D cl P ad (va_up ct i (.inr (ci, fs.set k v))) H1 → va_S A H0 H1 locs1 → H1.size = H.size → (∀ q : Nat, q ≠ ad i → H1[q]? = H[q]?) → W p l e R s m args below meth c H1 locs1 cells slots Q (F0 m (pc + 3) ls rest)) : W p l e R s m args below meth c H locs cells slots Q (F0 m pc ls (v :: .ref (ad i) :: rest)) := by
  have hap := va_apart (own := own) hts hin ty0 hty hnm hK hc
  have hat := hP i hi
  rw [he] at hat
  obtain ⟨r, h1, cell, q1, q2, q3, q4⟩ := hat
  obtain rfl : r = (C, T, N) := Option.some.inj (h1.symm.trans hc)
  obtain ⟨hS, hfc, kC, hkC, hkind⟩ := hK.1 ci _ hc
  obtain ⟨cf, kf, fi, f, hif, hsl⟩ := hS k hk
  have hlay := hts _ (hin _ (u_in_lay hk))
  unfold u_lay at hlay
  rw [if_neg (by rw [hfin]; decide)] at hlay
  have hst := (u_facts hfc hkC (u_lays hts hin hk) hif).1
  have h6 := u_store hfc hkC hkind hlay hif (hty k hk) hn hfit
  refine W.putK hexec hb (f := f) ⟨hown, hlink, ⟨_, _, _, hif⟩, hst⟩ (by rw [q2]; exact h6) q1 q3 (by rw [hsl]; exact k2_hasslot (q4 k hk)) rfl rfl hdg fun H' e1 e2 e3 => ?_
  rw [hsl] at e1 ⊢
  exact kk H' _ (nw_set hP hD hi ⟨_, hc, t_OB.to (V := updV (vp_V fs) k v) ⟨_, e1, q2, q3, t_set q4 hap hk v⟩ (fun j _ => vp_updV_set hl v j)⟩ e3) (hS0.put e2 e3 (hD.2 i hi)) e2 e3
theorem nw_putN (hexec : p.tables.exec = Jvm.exec) (hb : c.code = cc) {own C host : String} {T : u_T} {N ci index : Nat} {Ts : List Cond} (hts : ∀ w ∈ Ts, w.before args s = true) (hin : ∀ w ∈ u_ws C T N, w ∈ Ts) (ty0 : Nat → FieldType) (hty : ∀ k, k < N → parseFieldDescriptor (T k).2.2.1 = some (ty0 k)) (hnm : ∀ a, a < N → ∀ b, b < N → a ≠ b → (T a).2.1 ≠ (T b).2.1) (hown : s.vm.findClass own = some m.cls) (hK : va_K D cl tys s) (hP : nw D cl P ad ct H) (hD : nd A P ad) (hS0 : va_S A H0 H locs) {i : Nat} (hi : P i) {fs : List Value} (he : ct i = .inr (ci, fs)) (hc : cl[ci]? = some (C, T, N)) (k : Nat) (hk : k < N) (hlink : va_Nw (.fieldLinkNest own index (T k).1 (T k).2.1 (T k).2.2.1 host) s) (hfin : (T k).2.2.2 = false) {v : Value} (hn : narrow (ty0 k) v = v) (hfit : fits (ty0 k) v = true) (hl : k < fs.length)
    (hdg : decode cc pc = .ok (.putfield index, 3)) (kk : ∀ (H1 : Heap) (locs1 : List Loc), nw D cl P ad (va_up ct i (.inr (ci, fs.set k v))) H1 → va_S A H0 H1 locs1 → H1.size = H.size → (∀ q : Nat, q ≠ ad i → H1[q]? = H[q]?) → W p l e R s m args below meth c H1 locs1 cells slots Q (F0 m (pc + 3) ls rest)) : W p l e R s m args below meth c H locs cells slots Q (F0 m pc ls (v :: .ref (ad i) :: rest)) := by
  have hap := va_apart (own := own) hts hin ty0 hty hnm hK hc
  have hat := hP i hi
  rw [he] at hat
  obtain ⟨r, h1, cell, q1, q2, q3, q4⟩ := hat
  obtain rfl : r = (C, T, N) := Option.some.inj (h1.symm.trans hc)
  obtain ⟨hS, hfc, kC, hkC, hkind⟩ := hK.1 ci _ hc
  obtain ⟨cf, kf, fi, f, hif, hsl⟩ := hS k hk
  have hlay := hts _ (hin _ (u_in_lay hk))
  unfold u_lay at hlay
  rw [if_neg (by rw [hfin]; decide)] at hlay
  have hst := (u_facts hfc hkC (u_lays hts hin hk) hif).1
  have h6 := u_store hfc hkC hkind hlay hif (hty k hk) hn hfit
  refine va_WputK hexec hb (f := f) hown (va_Nw.use rfl hlink) hif hst (by rw [q2]; exact h6) q1 q3 (by rw [hsl]; exact k2_hasslot (q4 k hk)) rfl rfl hdg fun H' e1 e2 e3 => ?_
  rw [hsl] at e1 ⊢
  exact kk H' _ (nw_set hP hD hi ⟨_, hc, t_OB.to (V := updV (vp_V fs) k v) ⟨_, e1, q2, q3, t_set q4 hap hk v⟩ (fun j _ => vp_updV_set hl v j)⟩ e3) (hS0.put e2 e3 (hD.2 i hi)) e2 e3
theorem nw_putF (hexec : p.tables.exec = Jvm.exec) (hb : c.code = cc) {own C : String} {T : u_T} {N ci index : Nat} {Ts : List Cond} (hts : ∀ w ∈ Ts, w.before args s = true) (hin : ∀ w ∈ u_ws C T N, w ∈ Ts) (ty0 : Nat → FieldType) (hty : ∀ k, k < N → parseFieldDescriptor (T k).2.2.1 = some (ty0 k)) (hnm : ∀ a, a < N → ∀ b, b < N → a ≠ b → (T a).2.1 ≠ (T b).2.1) (hown : s.vm.findClass own = some m.cls) (hK : va_K D cl tys s) (hP : nw D cl P ad ct H) (hD : nd A P ad) (hS0 : va_S A H0 H locs) {i : Nat} (hi : P i) {fs : List Value} (he : ct i = .inr (ci, fs)) (hc : cl[ci]? = some (C, T, N)) (k : Nat) (hk : k < N) (hlink : (Cond.fieldLink own index (T k).1 (T k).2.1 (T k).2.2.1).before args s = true) (hfin : (T k).2.2.2 = true) (hin2 : meth.name = "<init>") (hdecl : (T k).1 = own) {v : Value} (hn : narrow (ty0 k) v = v) (hfit : fits (ty0 k) v = true) (hl : k < fs.length)
    (hdg : decode cc pc = .ok (.putfield index, 3)) (kk : ∀ (H1 : Heap) (locs1 : List Loc), nw D cl P ad (va_up ct i (.inr (ci, fs.set k v))) H1 → va_S A H0 H1 locs1 → H1.size = H.size → (∀ q : Nat, q ≠ ad i → H1[q]? = H[q]?) → W p l e R s m args below meth c H1 locs1 cells slots Q (F0 m (pc + 3) ls rest)) : W p l e R s m args below meth c H locs cells slots Q (F0 m pc ls (v :: .ref (ad i) :: rest)) := by
  have hap := va_apart (own := own) hts hin ty0 hty hnm hK hc
  have hat := hP i hi
  rw [he] at hat
  obtain ⟨r, h1, cell, q1, q2, q3, q4⟩ := hat
  obtain rfl : r = (C, T, N) := Option.some.inj (h1.symm.trans hc)
  obtain ⟨hS, hfc, kC, hkC, hkind⟩ := hK.1 ci _ hc
  obtain ⟨cf, kf, fi, f, hif, hsl⟩ := hS k hk
  have hlay := hts _ (hin _ (u_in_lay hk))
  unfold u_lay at hlay
  rw [if_pos hfin] at hlay
  have hst := (u_facts hfc hkC (u_lays hts hin hk) hif).1
  have hcf : m.cls = cf := by
    obtain ⟨_, _, c', _, _, _, -, -, hf', -, -, -, hown2, -⟩ := Cond.laysFinal_spec hlay
    have e1 : c' = cf := by have := hif.symm.trans hf'; simp at this; exact this.1.symm
    rw [hdecl] at hown2
    rw [← e1]; exact Option.some.inj (hown.symm.trans hown2)
  have h6 := u_fits hfc hkC hkind (Or.inr hlay) hif (hty k hk) hn hfit
  refine W.putFinK hexec hb hown hlink hif hst hcf hin2 (by rw [q2]; exact h6) q1 q3 (by rw [hsl]; exact k2_hasslot (q4 k hk)) rfl rfl hdg fun H' e1 e2 e3 => ?_
  rw [hsl] at e1 ⊢
  exact kk H' _ (nw_set hP hD hi ⟨_, hc, t_OB.to (V := updV (vp_V fs) k v) ⟨_, e1, q2, q3, t_set q4 hap hk v⟩ (fun j _ => vp_updV_set hl v j)⟩ e3) (hS0.put e2 e3 (hD.2 i hi)) e2 e3
theorem nw_bald (hexec : p.tables.exec = Jvm.exec) (hb : c.code = cc) (hK : va_K D cl tys s) (hP : nw D cl P ad ct H) {i : Nat} (hi : P i) {cA : ClassId} {n : Nat} {f : Nat → Int32} (he : ct i = .inl (cA, n, .inl f)) (t0 : Nat) (ht : tys[t0]? = some (cA, .byte)) {j : Int32} (hin : vp_in j n) (hdg : decode cc pc = .ok (.baload, 1))
    (kk : W p l e R s m args below meth c H locs cells slots Q (F0 m (pc + 1) ls (.int (f j.toNatClampNeg) :: rest))) : W p l e R s m args below meth c H locs cells slots Q (F0 m pc ls (.int j :: .ref (ad i) :: rest)) :=
  va_bald (D := D) hexec hb hK (nw_one hP hi he) 0 t0 rfl ht hin hdg kk
theorem nw_zald (hexec : p.tables.exec = Jvm.exec) (hb : c.code = cc) (hK : va_K D cl tys s) (hP : nw D cl P ad ct H) {i : Nat} (hi : P i) {cA : ClassId} {n : Nat} {f : Nat → Int32} (he : ct i = .inl (cA, n, .inl f)) (t0 : Nat) (ht : tys[t0]? = some (cA, .boolean)) {j : Int32} (hin : vp_in j n) (hdg : decode cc pc = .ok (.baload, 1))
    (kk : W p l e R s m args below meth c H locs cells slots Q (F0 m (pc + 1) ls (.int (f j.toNatClampNeg) :: rest))) : W p l e R s m args below meth c H locs cells slots Q (F0 m pc ls (.int j :: .ref (ad i) :: rest)) :=
  va_zald (D := D) hexec hb hK (nw_one hP hi he) 0 t0 rfl ht hin hdg kk
theorem nw_iald (hexec : p.tables.exec = Jvm.exec) (hb : c.code = cc) (hK : va_K D cl tys s) (hP : nw D cl P ad ct H) {i : Nat} (hi : P i) {cA : ClassId} {n : Nat} {f : Nat → Int32} (he : ct i = .inl (cA, n, .inl f)) (t0 : Nat) (ht : tys[t0]? = some (cA, .int)) {j : Int32} (hin : vp_in j n) (hdg : decode cc pc = .ok (.iaload, 1))
    (kk : W p l e R s m args below meth c H locs cells slots Q (F0 m (pc + 1) ls (.int (f j.toNatClampNeg) :: rest))) : W p l e R s m args below meth c H locs cells slots Q (F0 m pc ls (.int j :: .ref (ad i) :: rest)) :=
  va_iald (D := D) hexec hb hK (nw_one hP hi he) 0 t0 rfl ht hin hdg kk
theorem nw_aald (hexec : p.tables.exec = Jvm.exec) (hb : c.code = cc) (hK : va_K D cl tys s) (hP : nw D cl P ad ct H) {i : Nat} (hi : P i) {cA : ClassId} {C : String} {n : Nat} {f : Nat → Option Nat} (he : ct i = .inl (cA, n, .inr (.inr (.inr (.inr f))))) (t0 : Nat) (ht : tys[t0]? = some (cA, .object C)) {j : Int32} (hin : vp_in j n) {r : Nat} (hr : f j.toNatClampNeg = some r) (hdg : decode cc pc = .ok (.aaload, 1))
    (kk : W p l e R s m args below meth c H locs cells slots Q (F0 m (pc + 1) ls (.ref r :: rest))) : W p l e R s m args below meth c H locs cells slots Q (F0 m pc ls (.int j :: .ref (ad i) :: rest)) :=
  va_aldq (D := D) hexec hb hK (nw_one hP hi he) 0 t0 rfl ht hin hdg (by rw [hr]; exact kk)
theorem nw_alen (hexec : p.tables.exec = Jvm.exec) (hb : c.code = cc) (hK : va_K D cl tys s) (hP : nw D cl P ad ct H) {i : Nat} (hi : P i) {cA : ClassId} {x : vp_A} (he : ct i = .inl (cA, x)) (t0 : Nat) {ty : FieldType} (ht : tys[t0]? = some (cA, ty)) {v : Int32} (hv : Int32.ofNat x.1 = v) (hdg : decode cc pc = .ok (.arraylength, 1))
    (kk : W p l e R s m args below meth c H locs cells slots Q (F0 m (pc + 1) ls (.int v :: rest))) : W p l e R s m args below meth c H locs cells slots Q (F0 m pc ls (.ref (ad i) :: rest)) :=
  va_alen (D := D) hexec hb hK (nw_one hP hi he) 0 t0 rfl ht hv hdg kk
theorem nw_bast (hexec : p.tables.exec = Jvm.exec) (hb : c.code = cc) (hK : va_K D cl tys s) (hP : nw D cl P ad ct H) (hD : nd A P ad) (hS : va_S A H0 H locs) {i : Nat} (hi : P i) {cA : ClassId} {n : Nat} {f : Nat → Int32} (he : ct i = .inl (cA, n, .inl f)) (t0 : Nat) (ht : tys[t0]? = some (cA, .byte)) {j : Int32} {x : Int32} (hin : vp_in j n) (hdg : decode cc pc = .ok (.bastore, 1))
    (kk : ∀ (H1 : Heap) (locs1 : List Loc), nw D cl P ad (va_up ct i (.inl (cA, n, .inl (upd f j.toNatClampNeg (vp_nar .byte x))))) H1 → va_S A H0 H1 locs1 → H1.size = H.size → (∀ q : Nat, q ≠ ad i → H1[q]? = H[q]?) → W p l e R s m args below meth c H1 locs1 cells slots Q (F0 m (pc + 1) ls rest)) : W p l e R s m args below meth c H locs cells slots Q (F0 m pc ls (.int x :: .int j :: .ref (ad i) :: rest)) := by
  have hat := hP i hi
  rw [he] at hat
  refine W.bast hexec hb hat ((hK.2 t0 _ ht).1 n (fun j => .int (f j))) (fun q => by cases q) (by show ¬ (j < 0 ∨ (arrV _ _ _).slots.size ≤ _); rw [arrV_size]; exact hin) rfl rfl hdg fun H1 e z oq => ?_
  refine kk H1 _ (nw_set hP hD hi ?_ oq) (hS.put z oq (hD.2 i hi)) z oq
  show H1[ad i]? = some (vp_cell _ _)
  rw [e]
  rw [vp_cell_i, vp_cell_i, arrV_store]
  congr 2
  funext q
  by_cases hq : q = j.toNatClampNeg
  · subst hq
    simp [updV, upd, vp_nar, narrow]
  · simp [updV, upd, hq]
theorem nw_iast (hexec : p.tables.exec = Jvm.exec) (hb : c.code = cc) (hK : va_K D cl tys s) (hP : nw D cl P ad ct H) (hD : nd A P ad) (hS : va_S A H0 H locs) {i : Nat} (hi : P i) {cA : ClassId} {n : Nat} {f : Nat → Int32} (he : ct i = .inl (cA, n, .inl f)) (t0 : Nat) (ht : tys[t0]? = some (cA, .int)) {j : Int32} {x : Int32} (hin : vp_in j n) (hdg : decode cc pc = .ok (.iastore, 1))
    (kk : ∀ (H1 : Heap) (locs1 : List Loc), nw D cl P ad (va_up ct i (.inl (cA, n, .inl (upd f j.toNatClampNeg x)))) H1 → va_S A H0 H1 locs1 → H1.size = H.size → (∀ q : Nat, q ≠ ad i → H1[q]? = H[q]?) → W p l e R s m args below meth c H1 locs1 cells slots Q (F0 m (pc + 1) ls rest)) : W p l e R s m args below meth c H locs cells slots Q (F0 m pc ls (.int x :: .int j :: .ref (ad i) :: rest)) := by
  have hat := hP i hi
  rw [he] at hat
  refine W.iast hexec hb hat ((hK.2 t0 _ ht).1 n (fun j => .int (f j))) (fun q => by cases q) (by show ¬ (j < 0 ∨ (arrV _ _ _).slots.size ≤ _); rw [arrV_size]; exact hin) rfl rfl hdg fun H1 e z oq => ?_
  refine kk H1 _ (nw_set hP hD hi ?_ oq) (hS.put z oq (hD.2 i hi)) z oq
  show H1[ad i]? = some (vp_cell _ _)
  rw [e]
  rw [vp_cell_i, vp_cell_i, arrV_store]
  congr 2
  funext q
  by_cases hq : q = j.toNatClampNeg
  · subst hq
    simp [updV, upd]
  · simp [updV, upd, hq]
end NWR

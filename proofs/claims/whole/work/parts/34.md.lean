/-! the world of a TornLogModel, by program (wip/whole/gen/md.py) -/
abbrev PM : Nat → Prop := fun i => i < 8
def mdC (cy : Nat → ClassId) (ad : Nat → Nat) (fl : Nat) (dn : Bool) (tp : Nat → Nat) (tn : Nat) (w : Bool) (cp : Nat) (cb : Nat) (we : Nat → Nat) (be : Nat → Nat) (lg : Nat → Bool) (co : Nat → Nat) (fi : Nat → Nat) (bn : Nat) (op : Option Nat) (ro : Nat → Nat) (fo : Nat) : Nat → va_E := fun i =>
  if i = 0 then .inr (5, [.int (nI fl), .int (bI dn), .ref (ad 1), .int (nI tn), .int (bI w), .int (nI cp), .int (nI cb), .ref (ad 2), .ref (ad 3), .ref (ad 4), .ref (ad 5), .ref (ad 6), .int (nI bn), .int (oI op), .ref (ad 7), .int (nI fo)]) else
  if i = 1 then .inl (cy 0, 1060, .inl (fun j => sb_b (tp j))) else
  if i = 2 then .inl (cy 1, 24, .inl (fun j => nI (we j))) else
  if i = 3 then .inl (cy 1, 24, .inl (fun j => nI (be j))) else
  if i = 4 then .inl (cy 2, 24, .inl (fun j => bI (lg j))) else
  if i = 5 then .inl (cy 1, 24, .inl (fun j => nI (co j))) else
  if i = 6 then .inl (cy 1, 24, .inl (fun j => nI (fi j))) else
  .inl (cy 0, 48960, .inl (fun j => sb_b (ro j)))
section MDC
variable {D : va_G} {A : Nat → Prop} {cy : Nat → ClassId} {ad : Nat → Nat} {fl tn cp cb bn fo : Nat} {dn w : Bool} {tp we be co fi ro : Nat → Nat} {lg : Nat → Bool} {op : Option Nat} {H H1 : Heap}
theorem md_0 : mdC cy ad fl dn tp tn w cp cb we be lg co fi bn op ro fo 0 = .inr (5, [.int (nI fl), .int (bI dn), .ref (ad 1), .int (nI tn), .int (bI w), .int (nI cp), .int (nI cb), .ref (ad 2), .ref (ad 3), .ref (ad 4), .ref (ad 5), .ref (ad 6), .int (nI bn), .int (oI op), .ref (ad 7), .int (nI fo)]) := rfl
theorem md_1 : mdC cy ad fl dn tp tn w cp cb we be lg co fi bn op ro fo 1 = .inl (cy 0, 1060, .inl (fun j => sb_b (tp j))) := rfl
theorem md_2 : mdC cy ad fl dn tp tn w cp cb we be lg co fi bn op ro fo 2 = .inl (cy 1, 24, .inl (fun j => nI (we j))) := rfl
theorem md_3 : mdC cy ad fl dn tp tn w cp cb we be lg co fi bn op ro fo 3 = .inl (cy 1, 24, .inl (fun j => nI (be j))) := rfl
theorem md_4 : mdC cy ad fl dn tp tn w cp cb we be lg co fi bn op ro fo 4 = .inl (cy 2, 24, .inl (fun j => bI (lg j))) := rfl
theorem md_5 : mdC cy ad fl dn tp tn w cp cb we be lg co fi bn op ro fo 5 = .inl (cy 1, 24, .inl (fun j => nI (co j))) := rfl
theorem md_6 : mdC cy ad fl dn tp tn w cp cb we be lg co fi bn op ro fo 6 = .inl (cy 1, 24, .inl (fun j => nI (fi j))) := rfl
theorem md_7 : mdC cy ad fl dn tp tn w cp cb we be lg co fi bn op ro fo 7 = .inl (cy 0, 48960, .inl (fun j => sb_b (ro j))) := rfl
theorem mdu_fl {x : Nat} : ∀ i, PM i → va_up (mdC cy ad fl dn tp tn w cp cb we be lg co fi bn op ro fo) 0 (.inr (5, [Value.int (nI fl), Value.int (bI dn), Value.ref (ad 1), Value.int (nI tn), Value.int (bI w), Value.int (nI cp), Value.int (nI cb), Value.ref (ad 2), Value.ref (ad 3), Value.ref (ad 4), Value.ref (ad 5), Value.ref (ad 6), Value.int (nI bn), Value.int (oI op), Value.ref (ad 7), Value.int (nI fo)].set 0 (Value.int (nI x)))) i = mdC cy ad x dn tp tn w cp cb we be lg co fi bn op ro fo i := by
  intro i hi
  by_cases h : i = 0
  · subst h; rfl
  · rw [va_up_ne _ _ h]; simp only [mdC, if_neg h]
theorem mdu_dn {x : Bool} : ∀ i, PM i → va_up (mdC cy ad fl dn tp tn w cp cb we be lg co fi bn op ro fo) 0 (.inr (5, [Value.int (nI fl), Value.int (bI dn), Value.ref (ad 1), Value.int (nI tn), Value.int (bI w), Value.int (nI cp), Value.int (nI cb), Value.ref (ad 2), Value.ref (ad 3), Value.ref (ad 4), Value.ref (ad 5), Value.ref (ad 6), Value.int (nI bn), Value.int (oI op), Value.ref (ad 7), Value.int (nI fo)].set 1 (Value.int (bI x)))) i = mdC cy ad fl x tp tn w cp cb we be lg co fi bn op ro fo i := by
  intro i hi
  by_cases h : i = 0
  · subst h; rfl
  · rw [va_up_ne _ _ h]; simp only [mdC, if_neg h]
theorem mdu_tn {x : Nat} : ∀ i, PM i → va_up (mdC cy ad fl dn tp tn w cp cb we be lg co fi bn op ro fo) 0 (.inr (5, [Value.int (nI fl), Value.int (bI dn), Value.ref (ad 1), Value.int (nI tn), Value.int (bI w), Value.int (nI cp), Value.int (nI cb), Value.ref (ad 2), Value.ref (ad 3), Value.ref (ad 4), Value.ref (ad 5), Value.ref (ad 6), Value.int (nI bn), Value.int (oI op), Value.ref (ad 7), Value.int (nI fo)].set 3 (Value.int (nI x)))) i = mdC cy ad fl dn tp x w cp cb we be lg co fi bn op ro fo i := by
  intro i hi
  by_cases h : i = 0
  · subst h; rfl
  · rw [va_up_ne _ _ h]; simp only [mdC, if_neg h]
theorem mdu_w {x : Bool} : ∀ i, PM i → va_up (mdC cy ad fl dn tp tn w cp cb we be lg co fi bn op ro fo) 0 (.inr (5, [Value.int (nI fl), Value.int (bI dn), Value.ref (ad 1), Value.int (nI tn), Value.int (bI w), Value.int (nI cp), Value.int (nI cb), Value.ref (ad 2), Value.ref (ad 3), Value.ref (ad 4), Value.ref (ad 5), Value.ref (ad 6), Value.int (nI bn), Value.int (oI op), Value.ref (ad 7), Value.int (nI fo)].set 4 (Value.int (bI x)))) i = mdC cy ad fl dn tp tn x cp cb we be lg co fi bn op ro fo i := by
  intro i hi
  by_cases h : i = 0
  · subst h; rfl
  · rw [va_up_ne _ _ h]; simp only [mdC, if_neg h]
theorem mdu_cp {x : Nat} : ∀ i, PM i → va_up (mdC cy ad fl dn tp tn w cp cb we be lg co fi bn op ro fo) 0 (.inr (5, [Value.int (nI fl), Value.int (bI dn), Value.ref (ad 1), Value.int (nI tn), Value.int (bI w), Value.int (nI cp), Value.int (nI cb), Value.ref (ad 2), Value.ref (ad 3), Value.ref (ad 4), Value.ref (ad 5), Value.ref (ad 6), Value.int (nI bn), Value.int (oI op), Value.ref (ad 7), Value.int (nI fo)].set 5 (Value.int (nI x)))) i = mdC cy ad fl dn tp tn w x cb we be lg co fi bn op ro fo i := by
  intro i hi
  by_cases h : i = 0
  · subst h; rfl
  · rw [va_up_ne _ _ h]; simp only [mdC, if_neg h]
theorem mdu_cb {x : Nat} : ∀ i, PM i → va_up (mdC cy ad fl dn tp tn w cp cb we be lg co fi bn op ro fo) 0 (.inr (5, [Value.int (nI fl), Value.int (bI dn), Value.ref (ad 1), Value.int (nI tn), Value.int (bI w), Value.int (nI cp), Value.int (nI cb), Value.ref (ad 2), Value.ref (ad 3), Value.ref (ad 4), Value.ref (ad 5), Value.ref (ad 6), Value.int (nI bn), Value.int (oI op), Value.ref (ad 7), Value.int (nI fo)].set 6 (Value.int (nI x)))) i = mdC cy ad fl dn tp tn w cp x we be lg co fi bn op ro fo i := by
  intro i hi
  by_cases h : i = 0
  · subst h; rfl
  · rw [va_up_ne _ _ h]; simp only [mdC, if_neg h]
theorem mdu_bn {x : Nat} : ∀ i, PM i → va_up (mdC cy ad fl dn tp tn w cp cb we be lg co fi bn op ro fo) 0 (.inr (5, [Value.int (nI fl), Value.int (bI dn), Value.ref (ad 1), Value.int (nI tn), Value.int (bI w), Value.int (nI cp), Value.int (nI cb), Value.ref (ad 2), Value.ref (ad 3), Value.ref (ad 4), Value.ref (ad 5), Value.ref (ad 6), Value.int (nI bn), Value.int (oI op), Value.ref (ad 7), Value.int (nI fo)].set 12 (Value.int (nI x)))) i = mdC cy ad fl dn tp tn w cp cb we be lg co fi x op ro fo i := by
  intro i hi
  by_cases h : i = 0
  · subst h; rfl
  · rw [va_up_ne _ _ h]; simp only [mdC, if_neg h]
theorem mdu_op {x : Option Nat} : ∀ i, PM i → va_up (mdC cy ad fl dn tp tn w cp cb we be lg co fi bn op ro fo) 0 (.inr (5, [Value.int (nI fl), Value.int (bI dn), Value.ref (ad 1), Value.int (nI tn), Value.int (bI w), Value.int (nI cp), Value.int (nI cb), Value.ref (ad 2), Value.ref (ad 3), Value.ref (ad 4), Value.ref (ad 5), Value.ref (ad 6), Value.int (nI bn), Value.int (oI op), Value.ref (ad 7), Value.int (nI fo)].set 13 (Value.int (oI x)))) i = mdC cy ad fl dn tp tn w cp cb we be lg co fi bn x ro fo i := by
  intro i hi
  by_cases h : i = 0
  · subst h; rfl
  · rw [va_up_ne _ _ h]; simp only [mdC, if_neg h]
theorem mdu_fo {x : Nat} : ∀ i, PM i → va_up (mdC cy ad fl dn tp tn w cp cb we be lg co fi bn op ro fo) 0 (.inr (5, [Value.int (nI fl), Value.int (bI dn), Value.ref (ad 1), Value.int (nI tn), Value.int (bI w), Value.int (nI cp), Value.int (nI cb), Value.ref (ad 2), Value.ref (ad 3), Value.ref (ad 4), Value.ref (ad 5), Value.ref (ad 6), Value.int (nI bn), Value.int (oI op), Value.ref (ad 7), Value.int (nI fo)].set 15 (Value.int (nI x)))) i = mdC cy ad fl dn tp tn w cp cb we be lg co fi bn op ro x i := by
  intro i hi
  by_cases h : i = 0
  · subst h; rfl
  · rw [va_up_ne _ _ h]; simp only [mdC, if_neg h]
theorem mdu_tp {x : Nat → Nat} : ∀ i, PM i → va_up (mdC cy ad fl dn tp tn w cp cb we be lg co fi bn op ro fo) 1 (.inl (cy 0, 1060, .inl (fun j => sb_b (x j)))) i = mdC cy ad fl dn x tn w cp cb we be lg co fi bn op ro fo i := by
  intro i hi
  have hi : i < 8 := hi
  by_cases h : i = 1
  · subst h; rw [va_up_self]; simp [mdC]
  · rw [va_up_ne _ _ h]
    rcases (show i = 0 ∨ i = 1 ∨ i = 2 ∨ i = 3 ∨ i = 4 ∨ i = 5 ∨ i = 6 ∨ i = 7 by omega) with rfl | rfl | rfl | rfl | rfl | rfl | rfl | rfl <;> first | (exfalso; exact h rfl) | simp [mdC]
theorem mdu_we {x : Nat → Nat} : ∀ i, PM i → va_up (mdC cy ad fl dn tp tn w cp cb we be lg co fi bn op ro fo) 2 (.inl (cy 1, 24, .inl (fun j => nI (x j)))) i = mdC cy ad fl dn tp tn w cp cb x be lg co fi bn op ro fo i := by
  intro i hi
  have hi : i < 8 := hi
  by_cases h : i = 2
  · subst h; rw [va_up_self]; simp [mdC]
  · rw [va_up_ne _ _ h]
    rcases (show i = 0 ∨ i = 1 ∨ i = 2 ∨ i = 3 ∨ i = 4 ∨ i = 5 ∨ i = 6 ∨ i = 7 by omega) with rfl | rfl | rfl | rfl | rfl | rfl | rfl | rfl <;> first | (exfalso; exact h rfl) | simp [mdC]
theorem mdu_be {x : Nat → Nat} : ∀ i, PM i → va_up (mdC cy ad fl dn tp tn w cp cb we be lg co fi bn op ro fo) 3 (.inl (cy 1, 24, .inl (fun j => nI (x j)))) i = mdC cy ad fl dn tp tn w cp cb we x lg co fi bn op ro fo i := by
  intro i hi
  have hi : i < 8 := hi
  by_cases h : i = 3
  · subst h; rw [va_up_self]; simp [mdC]
  · rw [va_up_ne _ _ h]
    rcases (show i = 0 ∨ i = 1 ∨ i = 2 ∨ i = 3 ∨ i = 4 ∨ i = 5 ∨ i = 6 ∨ i = 7 by omega) with rfl | rfl | rfl | rfl | rfl | rfl | rfl | rfl <;> first | (exfalso; exact h rfl) | simp [mdC]
theorem mdu_lg {x : Nat → Bool} : ∀ i, PM i → va_up (mdC cy ad fl dn tp tn w cp cb we be lg co fi bn op ro fo) 4 (.inl (cy 2, 24, .inl (fun j => bI (x j)))) i = mdC cy ad fl dn tp tn w cp cb we be x co fi bn op ro fo i := by
  intro i hi
  have hi : i < 8 := hi
  by_cases h : i = 4
  · subst h; rw [va_up_self]; simp [mdC]
  · rw [va_up_ne _ _ h]
    rcases (show i = 0 ∨ i = 1 ∨ i = 2 ∨ i = 3 ∨ i = 4 ∨ i = 5 ∨ i = 6 ∨ i = 7 by omega) with rfl | rfl | rfl | rfl | rfl | rfl | rfl | rfl <;> first | (exfalso; exact h rfl) | simp [mdC]
theorem mdu_co {x : Nat → Nat} : ∀ i, PM i → va_up (mdC cy ad fl dn tp tn w cp cb we be lg co fi bn op ro fo) 5 (.inl (cy 1, 24, .inl (fun j => nI (x j)))) i = mdC cy ad fl dn tp tn w cp cb we be lg x fi bn op ro fo i := by
  intro i hi
  have hi : i < 8 := hi
  by_cases h : i = 5
  · subst h; rw [va_up_self]; simp [mdC]
  · rw [va_up_ne _ _ h]
    rcases (show i = 0 ∨ i = 1 ∨ i = 2 ∨ i = 3 ∨ i = 4 ∨ i = 5 ∨ i = 6 ∨ i = 7 by omega) with rfl | rfl | rfl | rfl | rfl | rfl | rfl | rfl <;> first | (exfalso; exact h rfl) | simp [mdC]
theorem mdu_fi {x : Nat → Nat} : ∀ i, PM i → va_up (mdC cy ad fl dn tp tn w cp cb we be lg co fi bn op ro fo) 6 (.inl (cy 1, 24, .inl (fun j => nI (x j)))) i = mdC cy ad fl dn tp tn w cp cb we be lg co x bn op ro fo i := by
  intro i hi
  have hi : i < 8 := hi
  by_cases h : i = 6
  · subst h; rw [va_up_self]; simp [mdC]
  · rw [va_up_ne _ _ h]
    rcases (show i = 0 ∨ i = 1 ∨ i = 2 ∨ i = 3 ∨ i = 4 ∨ i = 5 ∨ i = 6 ∨ i = 7 by omega) with rfl | rfl | rfl | rfl | rfl | rfl | rfl | rfl <;> first | (exfalso; exact h rfl) | simp [mdC]
theorem mdu_ro {x : Nat → Nat} : ∀ i, PM i → va_up (mdC cy ad fl dn tp tn w cp cb we be lg co fi bn op ro fo) 7 (.inl (cy 0, 48960, .inl (fun j => sb_b (x j)))) i = mdC cy ad fl dn tp tn w cp cb we be lg co fi bn op x fo i := by
  intro i hi
  have hi : i < 8 := hi
  by_cases h : i = 7
  · subst h; rw [va_up_self]; simp [mdC]
  · rw [va_up_ne _ _ h]
    rcases (show i = 0 ∨ i = 1 ∨ i = 2 ∨ i = 3 ∨ i = 4 ∨ i = 5 ∨ i = 6 ∨ i = 7 by omega) with rfl | rfl | rfl | rfl | rfl | rfl | rfl | rfl <;> first | (exfalso; exact h rfl) | simp [mdC]
end MDC
theorem zn_upd (g : Nat → Bool) (k : Nat) (v : Bool) : upd (fun j => bI (g j)) k (vp_nar .boolean (bI v)) = fun j => bI (va_up g k v j) := by
  have e : vp_nar .boolean (bI v) = bI v := by cases v <;> decide
  rw [e]
  funext j
  by_cases h : j = k <;> simp [upd, va_up, h]
section NWZ
variable {p : Program} {l : Launch} {e : Env} {R : Room} {s : State} {m : MethodId} {args : Array Value} {below : List Frame} {meth : Method} {c : Code} {H : Heap} {locs : List Loc} {cells slots : Nat} {Q : State → Prop}
variable {cc : ByteArray} {pc : Nat} {ls : Array Slot} {rest : List Value} {D : va_G} {cl : List vw_C} {A : Nat → Prop} {tys : List (ClassId × FieldType)} {H0 : Heap} {P : Nat → Prop} {ad : Nat → Nat} {ct : Nat → va_E}
theorem nw_zast (hexec : p.tables.exec = Jvm.exec) (hb : c.code = cc) (hK : va_K D cl tys s) (hP : nw D cl P ad ct H) (hD : nd A P ad) (hS : va_S A H0 H locs) {i : Nat} (hi : P i) {cA : ClassId} {n : Nat} {f : Nat → Int32} (he : ct i = .inl (cA, n, .inl f)) (t0 : Nat) (ht : tys[t0]? = some (cA, .boolean)) {j : Int32} {x : Int32} (hin : vp_in j n) (hdg : decode cc pc = .ok (.bastore, 1))
    (kk : ∀ (H1 : Heap) (locs1 : List Loc), nw D cl P ad (va_up ct i (.inl (cA, n, .inl (upd f j.toNatClampNeg (vp_nar .boolean x))))) H1 → va_S A H0 H1 locs1 → H1.size = H.size → (∀ q : Nat, q ≠ ad i → H1[q]? = H[q]?) → W p l e R s m args below meth c H1 locs1 cells slots Q (F0 m (pc + 1) ls rest)) : W p l e R s m args below meth c H locs cells slots Q (F0 m pc ls (.int x :: .int j :: .ref (ad i) :: rest)) := by
  have hat := hP i hi
  rw [he] at hat
  refine W.zast hexec hb hat ((hK.2 t0 _ ht).1 n (fun j => .int (f j))) (fun q => by cases q) (by show ¬ (j < 0 ∨ (arrV _ _ _).slots.size ≤ _); rw [arrV_size]; exact hin) rfl rfl hdg fun H1 e z oq => ?_
  refine kk H1 _ (nw_set hP hD hi ?_ oq) (hS.put z oq (hD.2 i hi)) z oq
  show H1[ad i]? = some (vp_cell _ _)
  rw [e]
  rw [vp_cell_i, vp_cell_i, arrV_store]
  congr 2
  funext q
  by_cases hq : q = j.toNatClampNeg
  · subst hq
    simp [updV, upd, vp_nar, narrow]
  · simp [updV, upd, hq]
end NWZ

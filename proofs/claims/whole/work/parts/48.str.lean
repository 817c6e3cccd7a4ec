/-! record and word, on both sides -/
section STR
variable {l : Launch} {D : va_G} {cy : Nat → ClassId} {n k0 : Nat} {ct mt : (Nat → Nat) → Nat → va_E}
section FND
variable {cn : Nat → Nat} {cg : Nat → Nat → Nat} {be co fi ro rw rc re er tp : Nat → Nat} {bg bn ln tn n cp cb : Nat} {lg : Nat → Bool} {dn op : Bool} {oq : Option Nat}
/-- a record that was found: where it is on the chip and in the model's rows -/
theorem INV.fnd (h : INV n tp tn dn rw ln op bg cp cb cn cg er rc re be lg co fi bn oq ro) {i t q : Nat} (hf : fdR rc rw ln 0 i = some (t, q)) :
    ∃ o a z, t < ln ∧ fdI cn cg rw (fdR rc rw ln 0 i) = nI (t * 2048 + o) ∧ o + 9 + z ≤ 2048 ∧ plM ro (2040 * rw t) q = a ∧ a + 9 + z ≤ 48960 ∧ fdR co rw ln 0 i = some (t, q)
      ∧ num (fB cn cg (rw t)) (o + 5) 1 + num (fB cn cg (rw t)) (o + 6) 2 = z ∧ ro (a + 1) + num ro (a + 2) 2 = z
      ∧ num (fB cn cg (rw t)) o 1 = ro a ∧ ro a < 128 ∧ num (fB cn cg (rw t)) (o + 1) 4 = num ro (a + 4) 4 ∧ num (fB cn cg (rw t)) (o + 5) 1 = ro (a + 1) ∧ num (fB cn cg (rw t)) (o + 6) 2 = num ro (a + 2) 2
      ∧ ∀ j, j < z → fB cn cg (rw t) (o + 8 + j) = ro (a + 9 + j) := by
  obtain ⟨s1, s2, s3⟩ := fdR_spec hf
  have ht : t < ln := by omega
  obtain ⟨l1, l2, l3⟩ := h.lay_ ht
  obtain ⟨w1, m1, m2, m3, m4, m5, m6⟩ := l1.2 q s3
  have hp := l1.plME q (by omega)
  have hin := l1.in_ s3
  have h6 := pla_ge (fB cn cg (rw t)) q
  have hs : szf (fB cn cg (rw t)) (pla (fB cn cg (rw t)) q) = 9 + num (fB cn cg (rw t)) (pla (fB cn cg (rw t)) q + 5) 1 + num (fB cn cg (rw t)) (pla (fB cn cg (rw t)) q + 6) 2 := rfl
  refine ⟨pla (fB cn cg (rw t)) q, 2040 * rw t + (pla (fB cn cg (rw t)) q - 6), num (fB cn cg (rw t)) (pla (fB cn cg (rw t)) q + 5) 1 + num (fB cn cg (rw t)) (pla (fB cn cg (rw t)) q + 6) 2, ht, by rw [hf]; rfl, ?_, hp, ?_, by rw [h.fdE, hf], rfl, ?_, by rw [num_1, m1], m2, m3, by rw [num_1, m4], m5, ?_⟩
  · omega
  · generalize pla (fB cn cg (rw t)) q = p at *
    generalize rw t = b at *
    omega
  · rw [num_1, m4, m5]
  · intro j hj
    exact m6 j (by omega)
end FND
theorem st_record (hl0 : l.stackTraces = false) (hn : n < 512) (h : REL cy n ct mt k0) (x1 x2 : Int32) : STP l D cy n y_Lw_record b_Lw_record 5 h_Lw_record [.int x1, .int x2] y_Mo_record b_Mo_record 4 ct mt := by
  obtain ⟨tp, rw, pt, cn, er, rc, re, be, co, fi, ro, cg, tn, ln, bg, cp, cb, pn, bn, fo, dn, op, w, lg, oq, hI, rfl, rfl⟩ := h
  have hI' := hI.mono (Nat.le_succ n)
  by_cases q1 : x2 < nI 0 ∨ nI 4 < x2
  · exact ⟨1, 0, _, _, _, by omega, fun q => absurd q (by omega), REL.mk hI', fun ad oa x sa base => h_record_IA l D cy ad _ _ _ tl_0 oa x sa base x1 x2 0 (c_Tl_record1 l D cy ad sa base hl0 tp rw pt cn er rc re cg tn ln bg cp cb pn dn op w x1 x2 q1), fun am => c_Mo_record1 l D cy am k0 tn cp cb bn fo dn w tp er be co fi ro lg oq x1 x2 q1⟩
  have a1 := fun z => q1 (Or.inl z)
  have a2 := fun z => q1 (Or.inr z)
  have a0 : ¬ x2 < 0 := by rw [← nI_0]; exact a1
  cases dn with
  | true => exact ⟨2, 0, _, _, _, by omega, fun q => absurd q (by omega), REL.mk hI', fun ad oa x sa base => h_record_IS l D cy ad _ _ _ tl_0 oa x sa base x1 x2 0 (c_Tl_record2 l D cy ad sa base hl0 tp rw pt cn er rc re cg tn ln bg cp cb pn true op w x1 x2 a1 a2), fun am => c_Mo_record2 l D cy am k0 tn cp cb bn fo true w tp er be co fi ro lg oq x1 x2 a0 a2⟩
  | false =>
    by_cases q2 : x1 < 0
    · exact ⟨3, 0, _, _, _, by omega, fun q => absurd q (by omega), REL.mk hI', fun ad oa x sa base => h_record_NE l D cy ad _ _ _ tl_0 oa x sa base x1 x2 0 (c_Tl_record3 l D cy ad sa base hl0 tp rw pt cn er rc re cg tn ln bg cp cb pn false op w x1 x2 a1 a2 q2), fun am => c_Mo_record3 l D cy am k0 tn cp cb bn fo false w tp er be co fi ro lg oq x1 x2 a0 a2 q2⟩
    obtain ⟨i, hi, e1⟩ := nI_of q2
    subst e1
    cases hf : fdR rc rw ln 0 i with
    | none => exact ⟨3, 0, _, _, _, by omega, fun q => absurd q (by omega), REL.mk hI', fun ad oa x sa base => h_record_NE l D cy ad _ _ _ tl_0 oa x sa base _ x2 0 (c_Tl_record4 l D cy ad sa base hl0 tp rw pt cn er rc re cg tn ln bg cp cb pn false op w i x2 a1 a2 hi hI.HL hI.HR hI.HC hI.HG hI.HQ hI.HP (by rw [hf]; rfl)), fun am => c_Mo_record4 l D cy am k0 tn cp cb bn fo false w tp er be co fi ro lg oq i x2 a0 a2 hi rw ln hI.hln hI.hrow (hI.HB hn) hI.HN hI.HO hI.HPM (by rw [hI.fdE, hf])⟩
    | some tq =>
      obtain ⟨t, q⟩ := tq
      obtain ⟨o, a, z, ht, hfi, ho, ha, ha2, hfm, hz1, hz2, r0, r128, r1, r2, r3, r8⟩ := hI.fnd hf
      obtain ⟨v, e2, v1, v2⟩ := i32_in (by omega) (by omega) a1 a2
      subst e2
      rcases (show v = 0 ∨ v = 1 ∨ v = 2 ∨ v = 3 ∨ v = 4 by omega) with rfl | rfl | rfl | rfl | rfl
      · have hX := fun ad => c_Tl_record0_0 l D cy ad tp rw pt cn er rc re cg tn ln bg cp cb pn false op w i hi hI.HL hI.HR hI.HC hI.HG hI.HQ hI.HP t o ht (by omega) hfi
        rw [r0] at hX
        exact ⟨0, _, _, _, _, by omega, fun _ => rfl, REL.mk hI', fun ad oa x sa base => h_record_ok l D cy ad _ _ _ tl_0 oa x sa base _ _ _ (hX ad), fun am => c_Mo_record0_0 l D cy am k0 tn cp cb bn fo false w tp er be co fi ro lg oq i hi rw ln hI.hln hI.hrow (hI.HB hn) hI.HN hI.HO hI.HPM t q a hfm ha (by omega) r128⟩
      · have hX := fun ad => c_Tl_record0_1 l D cy ad tp rw pt cn er rc re cg tn ln bg cp cb pn false op w i hi hI.HL hI.HR hI.HC hI.HG hI.HQ hI.HP t o ht (by omega) hfi
        rw [r1] at hX
        exact ⟨0, _, _, _, _, by omega, fun _ => rfl, REL.mk hI', fun ad oa x sa base => h_record_ok l D cy ad _ _ _ tl_0 oa x sa base _ _ _ (hX ad), fun am => c_Mo_record0_1 l D cy am k0 tn cp cb bn fo false w tp er be co fi ro lg oq i hi rw ln hI.hln hI.hrow (hI.HB hn) hI.HN hI.HO hI.HPM t q a hfm ha (by omega)⟩
      · have hX := fun ad => c_Tl_record0_2 l D cy ad tp rw pt cn er rc re cg tn ln bg cp cb pn false op w i hi hI.HL hI.HR hI.HC hI.HG hI.HQ hI.HP t o ht (by omega) hfi
        rw [r2] at hX
        exact ⟨0, _, _, _, _, by omega, fun _ => rfl, REL.mk hI', fun ad oa x sa base => h_record_ok l D cy ad _ _ _ tl_0 oa x sa base _ _ _ (hX ad), fun am => c_Mo_record0_2 l D cy am k0 tn cp cb bn fo false w tp er be co fi ro lg oq i hi rw ln hI.hln hI.hrow (hI.HB hn) hI.HN hI.HO hI.HPM t q a hfm ha (by omega)⟩
      · have hX := fun ad => c_Tl_record0_3 l D cy ad tp rw pt cn er rc re cg tn ln bg cp cb pn false op w i hi hI.HL hI.HR hI.HC hI.HG hI.HQ hI.HP t o ht (by omega) hfi
        rw [r3] at hX
        exact ⟨0, _, _, _, _, by omega, fun _ => rfl, REL.mk hI', fun ad oa x sa base => h_record_ok l D cy ad _ _ _ tl_0 oa x sa base _ _ _ (hX ad), fun am => c_Mo_record0_3 l D cy am k0 tn cp cb bn fo false w tp er be co fi ro lg oq i hi rw ln hI.hln hI.hrow (hI.HB hn) hI.HN hI.HO hI.HPM t q a hfm ha (by omega)⟩
      · have hX := fun ad => c_Tl_record0_4 l D cy ad tp rw pt cn er rc re cg tn ln bg cp cb pn false op w i hi hI.HL hI.HR hI.HC hI.HG hI.HQ hI.HP t o ht (by omega) hfi
        exact ⟨0, _, _, _, _, by omega, fun _ => rfl, REL.mk hI', fun ad oa x sa base => h_record_ok l D cy ad _ _ _ tl_0 oa x sa base _ _ _ (hX ad), fun am => c_Mo_record0_4 l D cy am k0 tn cp cb bn fo false w tp er be co fi ro lg oq i hi rw ln hI.hln hI.hrow (hI.HB hn) hI.HN hI.HO hI.HPM t q a hfm ha (by omega)⟩
theorem st_word (hl0 : l.stackTraces = false) (hn : n < 512) (h : REL cy n ct mt k0) (x1 x2 : Int32) : STJ l D cy n y_Lw_word b_Lw_word 5 h_Lw_word [.int x1, .int x2] y_Mo_word b_Mo_word 8 ct mt := by
  obtain ⟨tp, rw, pt, cn, er, rc, re, be, co, fi, ro, cg, tn, ln, bg, cp, cb, pn, bn, fo, dn, op, w, lg, oq, hI, rfl, rfl⟩ := h
  have hI' := hI.mono (Nat.le_succ n)
  cases dn with
  | true => exact ⟨1, 0, _, _, _, by omega, fun q => absurd q (by omega), REL.mk hI', fun ad oa x sa base => h_word_IS l D cy ad _ _ _ tl_0 oa x sa base x1 x2 0 (c_Tl_word1 l D cy ad sa base hl0 tp rw pt cn er rc re cg tn ln bg cp cb pn true op w x1 x2), fun am => c_Mo_word1 l D cy am k0 tn cp cb bn fo true w tp er be co fi ro lg oq x1 x2⟩
  | false =>
    by_cases q2 : x1 < 0
    · exact ⟨2, 0, _, _, _, by omega, fun q => absurd q (by omega), REL.mk hI', fun ad oa x sa base => h_word_NE l D cy ad _ _ _ tl_0 oa x sa base x1 x2 0 (c_Tl_word2 l D cy ad sa base hl0 tp rw pt cn er rc re cg tn ln bg cp cb pn false op w x1 x2 q2), fun am => c_Mo_word2 l D cy am k0 tn cp cb bn fo false w tp er be co fi ro lg oq x1 x2 q2⟩
    obtain ⟨i, hi, e1⟩ := nI_of q2
    subst e1
    cases hf : fdR rc rw ln 0 i with
    | none => exact ⟨2, 0, _, _, _, by omega, fun q => absurd q (by omega), REL.mk hI', fun ad oa x sa base => h_word_NE l D cy ad _ _ _ tl_0 oa x sa base _ x2 0 (c_Tl_word3 l D cy ad sa base hl0 tp rw pt cn er rc re cg tn ln bg cp cb pn false op w i x2 hi hI.HL hI.HR hI.HC hI.HG hI.HQ hI.HP (by rw [hf]; rfl)), fun am => c_Mo_word3 l D cy am k0 tn cp cb bn fo false w tp er be co fi ro lg oq i x2 hi rw ln hI.hln hI.hrow (hI.HB hn) hI.HN hI.HO hI.HPM (by rw [hI.fdE, hf])⟩
    | some tq =>
      obtain ⟨t, q⟩ := tq
      obtain ⟨o, a, z, ht, hfi, ho, ha, ha2, hfm, hz1, hz2, r0, r128, r1, r2, r3, r8⟩ := hI.fnd hf
      rcases pk_ix x2 (show z < 2 ^ 31 by omega) with q3 | q3 | ⟨j, hj, e2⟩
      · exact ⟨3, 0, _, _, _, by omega, fun q => absurd q (by omega), REL.mk hI', fun ad oa x sa base => h_word_IB l D cy ad _ _ _ tl_0 oa x sa base _ x2 0 (c_Tl_word4 l D cy ad sa base hl0 tp rw pt cn er rc re cg tn ln bg cp cb pn false op w i x2 z hi hI.HL hI.HR hI.HC hI.HG hI.HQ hI.HP t o ht (by omega) hfi hz1 (by omega) (Or.inl q3)), fun am => c_Mo_word4 l D cy am k0 tn cp cb bn fo false w tp er be co fi ro lg oq i x2 hi rw ln hI.hln hI.hrow (hI.HB hn) hI.HN hI.HO hI.HPM t q a hfm ha (by omega) z hz2 (by omega) (Or.inl q3)⟩
      · exact ⟨3, 0, _, _, _, by omega, fun q => absurd q (by omega), REL.mk hI', fun ad oa x sa base => h_word_IB l D cy ad _ _ _ tl_0 oa x sa base _ x2 0 (c_Tl_word4 l D cy ad sa base hl0 tp rw pt cn er rc re cg tn ln bg cp cb pn false op w i x2 z hi hI.HL hI.HR hI.HC hI.HG hI.HQ hI.HP t o ht (by omega) hfi hz1 (by omega) (Or.inr q3)), fun am => c_Mo_word4 l D cy am k0 tn cp cb bn fo false w tp er be co fi ro lg oq i x2 hi rw ln hI.hln hI.hrow (hI.HB hn) hI.HN hI.HO hI.HPM t q a hfm ha (by omega) z hz2 (by omega) (Or.inr q3)⟩
      · subst e2
        have he : (fun k => if j + k < z then fB cn cg (rw t) (o + 8 + (j + k)) else 0) = fun k => if j + k < z then ro (a + 9 + (j + k)) else 0 := by
          funext k
          by_cases c : j + k < z
          · rw [if_pos c, if_pos c]; exact r8 _ c
          · rw [if_neg c, if_neg c]
        have hX := fun ad => c_Tl_word0 l D cy ad tp rw pt cn er rc re cg tn ln bg cp cb pn false op w i j z hi hI.HL hI.HR hI.HC hI.HG hI.HQ hI.HP t o ht (by omega) hfi hz1 (by omega) hj ho
        rw [he] at hX
        exact ⟨0, _, _, _, _, by omega, fun _ => rfl, REL.mk hI', fun ad oa x sa base => h_word_ok l D cy ad _ _ _ tl_0 oa x sa base _ _ _ (hX ad), fun am => c_Mo_word0 l D cy am k0 tn cp cb bn fo false w tp er be co fi ro lg oq i j hi rw ln hI.hln hI.hrow (hI.HB hn) hI.HN hI.HO hI.HPM t q a hfm ha (by omega) z hz2 (by omega) hj ha2⟩
end STR

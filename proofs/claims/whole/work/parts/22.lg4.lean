/-! an erasing within the whole world: the block's cells may lie elsewhere behind it -/
abbrev q_er (b : Nat) : Nat → Nat := fun i => if i = 0 then 10 + b else if i = 1 then 40 + b else 6
section ERJ
variable {D : va_G} {A : Nat → Prop} {cy : Nat → ClassId} {ad : Nat → Nat} {tp rw pt cn er rc re : Nat → Nat} {cg : Nat → Nat → Nat} {tn ln bg cp cb pn : Nat} {dn op w : Bool} {H H1 : Heap}
theorem qp_er {b : Nat} (hb : b < 24) : ∀ i, lt3 i → PT (q_er b i) := by
  intro i hi
  rcases (show i = 0 ∨ i = 1 ∨ i = 2 by have hi : i < 3 := hi; omega) with rfl | rfl | rfl
  · exact PT_b hb
  · exact PT_c hb
  · exact (by decide : PT 6)
theorem qi_er {b : Nat} (hb : b < 24) (hd : nd A PT ad) : ∀ i j, lt3 i → lt3 j → ad (q_er b i) = ad (q_er b j) → i = j := by
  refine nd_sub hd (q_er b) (qp_er hb) (fun i j hi hj h => ?_)
  have h : (if i = 0 then 10 + b else if i = 1 then 40 + b else 6) = (if j = 0 then 10 + b else if j = 1 then 40 + b else 6) := h
  have hi : i < 3 := hi
  have hj : j < 3 := hj
  rcases (show i = 0 ∨ i = 1 ∨ i = 2 by omega) with rfl | rfl | rfl <;> rcases (show j = 0 ∨ j = 1 ∨ j = 2 by omega) with rfl | rfl | rfl <;> first | rfl | (exfalso; simp at h; done) | (exfalso; simp at h; omega) | (exfalso; omega)
theorem qs_er {b : Nat} (hb : b < 24) : ∀ i, lt3 i → PT (q_er b i) ∧ tlC cy ad tp tn dn rw ln op bg w cp cb pt pn cn cg er rc re (q_er b i) = erC cy (fun i => ad (q_er b i)) (cn b) (cg b) (er b) (rc b) (re b) w cp cb i := by
  intro i hi
  refine ⟨qp_er hb i hi, ?_⟩
  rcases (show i = 0 ∨ i = 1 ∨ i = 2 by have hi : i < 3 := hi; omega) with rfl | rfl | rfl
  · refine (tl_b hb).trans ?_; simp [erC, q_er]
  · refine (tl_c hb).trans ?_; simp [erC, q_er]
  · refine tl_6.trans ?_; simp [erC, q_er]
theorem er_join {b q xer xrc xre z : Nat} {xg : Nat → Nat} {y : Bool} (hb : b < 24) (hP : nw D vcl PT ad (tlC cy ad tp tn dn rw ln op bg w cp cb pt pn cn cg er rc re) H) (hd : nd A PT ad) (hq : q = ad (40 + b) ∨ H.size ≤ q) (hA : A q) (hk : ∀ t : Nat, t < H.size → ¬ na lt3 (fun i => ad (q_er b i)) H.size t → H1[t]? = H[t]?)
    (h1 : nw D vcl lt3 (va_up (fun i => ad (q_er b i)) 1 q) (erC cy (va_up (fun i => ad (q_er b i)) 1 q) 2048 xg xer xrc xre y z cb) H1) : nw D vcl PT (va_up ad (40 + b) q) (tlC cy (va_up ad (40 + b) q) tp tn dn rw ln op bg y z cb pt pn (va_up cn b 2048) (va_up cg b xg) (va_up er b xer) (va_up rc b xrc) (va_up re b xre)) H1 ∧ nd A PT (va_up ad (40 + b) q) := by
  have e : ∀ j, j ≠ 40 + b → va_up ad (40 + b) q j = ad j := fun j h => va_up_ne _ _ h
  refine ⟨fun j hj => ?_, ?_⟩
  · by_cases z0 : j = 10 + b
    · subst z0
      have t1 := h1 0 (by decide)
      rw [e _ (by omega), tl_b hb]
      simpa [erC, va_up, q_er] using t1
    · by_cases z1 : j = 40 + b
      · subst z1
        have t1 := h1 1 (by decide)
        rw [tl_c hb]
        simpa [erC, va_up, q_er] using t1
      · by_cases z2 : j = 6
        · subst z2
          have t1 := h1 2 (by decide)
          rw [e _ (by omega), tl_6]
          simpa [erC, va_up, q_er] using t1
        · rw [e j z1]
          have hc : tlC cy (va_up ad (40 + b) q) tp tn dn rw ln op bg y z cb pt pn (va_up cn b 2048) (va_up cg b xg) (va_up er b xer) (va_up rc b xrc) (va_up re b xre) j = tlC cy ad tp tn dn rw ln op bg w cp cb pt pn cn cg er rc re j := by
            have hj : j < 9 ∨ (10 ≤ j ∧ j < 34) ∨ (40 ≤ j ∧ j < 64) := hj
            rcases hj with hj | hj | hj
            · rcases (show j = 0 ∨ j = 1 ∨ j = 2 ∨ j = 3 ∨ j = 4 ∨ j = 5 ∨ j = 7 ∨ j = 8 by omega) with rfl | rfl | rfl | rfl | rfl | rfl | rfl | rfl
              · rw [tl_0, tl_0, e 1 (by omega), e 3 (by omega)]
              · rw [tl_1, tl_1, e 2 (by omega)]
              · rw [tl_2, tl_2]
              · rw [tl_3, tl_3, e 4 (by omega), e 5 (by omega), e 6 (by omega), e 7 (by omega)]
              · rw [tl_4, tl_4]
                congr 7
                funext t
                by_cases ht : t < 24
                · rw [if_pos ht, if_pos ht, e _ (by omega)]
                · rw [if_neg ht, if_neg ht]
              · rw [tl_5, tl_5]
              · rw [tl_7, tl_7, e 8 (by omega)]
              · rw [tl_8, tl_8]
            · obtain ⟨t, rfl⟩ : ∃ t, j = 10 + t := ⟨j - 10, by omega⟩
              have ht : t ≠ b := by omega
              rw [tl_b (by omega), tl_b (by omega), e _ (by omega)]
              simp [va_up, ht]
            · obtain ⟨t, rfl⟩ : ∃ t, j = 40 + t := ⟨j - 40, by omega⟩
              have ht : t ≠ b := by omega
              rw [tl_c (by omega), tl_c (by omega)]
              simp [va_up, ht]
          rw [hc]
          refine (hP j hj).kept (hk _ (nw_lt hP hj) (fun hn => ?_))
          rcases hn with ⟨i, hi, hn⟩ | hn
          · have hj2 := hd.1 j (q_er b i) hj (qp_er hb i hi) hn
            rcases (show i = 0 ∨ i = 1 ∨ i = 2 by have hi : i < 3 := hi; omega) with rfl | rfl | rfl
            · exact z0 hj2
            · exact z1 hj2
            · exact z2 hj2
          · exact absurd (nw_lt hP hj) (Nat.not_lt.mpr hn)
  · rcases hq with rfl | hq
    · rw [va_up_id]; exact hd
    · exact nd_new hP hd hq hA (fun j hj _ => hj)
end ERJ

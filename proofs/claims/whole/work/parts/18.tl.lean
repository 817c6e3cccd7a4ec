/-! the world of a whole TornLog, by program (wip/whole/gen/tl.py) -/
abbrev PT : Nat → Prop := fun i => i < 9 ∨ (10 ≤ i ∧ i < 34) ∨ (40 ≤ i ∧ i < 64)
theorem PT_b {b : Nat} (h : b < 24) : PT (10 + b) := Or.inr (Or.inl ⟨by omega, by omega⟩)
theorem PT_c {b : Nat} (h : b < 24) : PT (40 + b) := Or.inr (Or.inr ⟨by omega, by omega⟩)
def tlC (cy : Nat → ClassId) (ad : Nat → Nat) (tp : Nat → Nat) (tn : Nat) (dn : Bool) (rw : Nat → Nat) (ln : Nat) (op : Bool) (bg : Nat) (w : Bool) (cp : Nat) (cb : Nat) (pt : Nat → Nat) (pn : Nat) (cn : Nat → Nat) (cg : Nat → Nat → Nat) (er : Nat → Nat) (rc : Nat → Nat) (re : Nat → Nat) : Nat → va_E := fun i =>
  if i = 0 then .inr (4, [.ref (ad 1), .ref (ad 3), .int (bI dn)]) else
  if i = 1 then .inr (1, [.ref (ad 2), .int (nI tn)]) else
  if i = 2 then .inl (cy 0, 1060, .inl (fun j => sb_b (tp j))) else
  if i = 3 then .inr (3, [.ref (ad 4), .ref (ad 5), .int (nI ln), .int (bI op), .int (nI bg), .ref (ad 6), .ref (ad 7)]) else
  if i = 4 then .inl (cy 4, 24, .inr (.inr (.inr (.inr (fun j => if j < 24 then some (ad (10 + j)) else none))))) else
  if i = 5 then .inl (cy 1, 24, .inl (fun j => nI (rw j))) else
  if i = 6 then .inr (2, [.int (bI w), .int (nI cp), .int (nI cb)]) else
  if i = 7 then .inr (1, [.ref (ad 8), .int (nI pn)]) else
  if i = 8 then .inl (cy 0, 1054, .inl (fun j => sb_b (pt j))) else
  if i < 34 then .inr (0, [.ref (ad (40 + (i - 10))), .int (nI (er (i - 10))), .int (nI 0), .int (nI (rc (i - 10))), .int (nI (re (i - 10)))]) else .inl (cy 0, cn (i - 40), .inl (fun j => sb_b (cg (i - 40) j)))
section TLC
variable {D : va_G} {A : Nat → Prop} {cy : Nat → ClassId} {ad : Nat → Nat} {tp rw pt cn er rc re : Nat → Nat} {cg : Nat → Nat → Nat} {tn ln bg cp cb pn : Nat} {dn op w : Bool} {H H1 : Heap}
theorem tl_0 : tlC cy ad tp tn dn rw ln op bg w cp cb pt pn cn cg er rc re 0 = .inr (4, [.ref (ad 1), .ref (ad 3), .int (bI dn)]) := rfl
theorem tl_1 : tlC cy ad tp tn dn rw ln op bg w cp cb pt pn cn cg er rc re 1 = .inr (1, [.ref (ad 2), .int (nI tn)]) := rfl
theorem tl_2 : tlC cy ad tp tn dn rw ln op bg w cp cb pt pn cn cg er rc re 2 = .inl (cy 0, 1060, .inl (fun j => sb_b (tp j))) := rfl
theorem tl_3 : tlC cy ad tp tn dn rw ln op bg w cp cb pt pn cn cg er rc re 3 = .inr (3, [.ref (ad 4), .ref (ad 5), .int (nI ln), .int (bI op), .int (nI bg), .ref (ad 6), .ref (ad 7)]) := rfl
theorem tl_4 : tlC cy ad tp tn dn rw ln op bg w cp cb pt pn cn cg er rc re 4 = .inl (cy 4, 24, .inr (.inr (.inr (.inr (fun j => if j < 24 then some (ad (10 + j)) else none))))) := rfl
theorem tl_5 : tlC cy ad tp tn dn rw ln op bg w cp cb pt pn cn cg er rc re 5 = .inl (cy 1, 24, .inl (fun j => nI (rw j))) := rfl
theorem tl_6 : tlC cy ad tp tn dn rw ln op bg w cp cb pt pn cn cg er rc re 6 = .inr (2, [.int (bI w), .int (nI cp), .int (nI cb)]) := rfl
theorem tl_7 : tlC cy ad tp tn dn rw ln op bg w cp cb pt pn cn cg er rc re 7 = .inr (1, [.ref (ad 8), .int (nI pn)]) := rfl
theorem tl_8 : tlC cy ad tp tn dn rw ln op bg w cp cb pt pn cn cg er rc re 8 = .inl (cy 0, 1054, .inl (fun j => sb_b (pt j))) := rfl
theorem tl_b {b : Nat} (h : b < 24) : tlC cy ad tp tn dn rw ln op bg w cp cb pt pn cn cg er rc re (10 + b) = .inr (0, [.ref (ad (40 + (b))), .int (nI (er (b))), .int (nI 0), .int (nI (rc (b))), .int (nI (re (b)))]) := by
  have e : 10 + b - 10 = b := by omega
  simp only [tlC, e, if_neg (show ¬ 10 + b = 0 by omega), if_neg (show ¬ 10 + b = 1 by omega), if_neg (show ¬ 10 + b = 2 by omega), if_neg (show ¬ 10 + b = 3 by omega), if_neg (show ¬ 10 + b = 4 by omega), if_neg (show ¬ 10 + b = 5 by omega), if_neg (show ¬ 10 + b = 6 by omega), if_neg (show ¬ 10 + b = 7 by omega), if_neg (show ¬ 10 + b = 8 by omega), if_pos (show 10 + b < 34 by omega)]
theorem tl_c {b : Nat} (h : b < 24) : tlC cy ad tp tn dn rw ln op bg w cp cb pt pn cn cg er rc re (40 + b) = .inl (cy 0, cn (b), .inl (fun j => sb_b (cg (b) j))) := by
  have e : 40 + b - 40 = b := by omega
  simp only [tlC, e, if_neg (show ¬ 40 + b = 0 by omega), if_neg (show ¬ 40 + b = 1 by omega), if_neg (show ¬ 40 + b = 2 by omega), if_neg (show ¬ 40 + b = 3 by omega), if_neg (show ¬ 40 + b = 4 by omega), if_neg (show ¬ 40 + b = 5 by omega), if_neg (show ¬ 40 + b = 6 by omega), if_neg (show ¬ 40 + b = 7 by omega), if_neg (show ¬ 40 + b = 8 by omega), if_neg (show ¬ 40 + b < 34 by omega)]
theorem tlu_dn {x : Bool} : ∀ i, PT i → va_up (tlC cy ad tp tn dn rw ln op bg w cp cb pt pn cn cg er rc re) 0 (.inr (4, [Value.ref (ad 1), Value.ref (ad 3), Value.int (bI dn)].set 2 (Value.int (bI x)))) i = tlC cy ad tp tn x rw ln op bg w cp cb pt pn cn cg er rc re i := by
  intro i hi
  by_cases h : i = 0
  · subst h; rfl
  · rw [va_up_ne _ _ h]; simp only [tlC, if_neg h]
theorem tlu_tn {x : Nat} : ∀ i, PT i → va_up (tlC cy ad tp tn dn rw ln op bg w cp cb pt pn cn cg er rc re) 1 (.inr (1, [Value.ref (ad 2), Value.int (nI tn)].set 1 (Value.int (nI x)))) i = tlC cy ad tp x dn rw ln op bg w cp cb pt pn cn cg er rc re i := by
  intro i hi
  by_cases h : i = 1
  · subst h; rfl
  · rw [va_up_ne _ _ h]; simp only [tlC, if_neg h]
theorem tlu_ln {x : Nat} : ∀ i, PT i → va_up (tlC cy ad tp tn dn rw ln op bg w cp cb pt pn cn cg er rc re) 3 (.inr (3, [Value.ref (ad 4), Value.ref (ad 5), Value.int (nI ln), Value.int (bI op), Value.int (nI bg), Value.ref (ad 6), Value.ref (ad 7)].set 2 (Value.int (nI x)))) i = tlC cy ad tp tn dn rw x op bg w cp cb pt pn cn cg er rc re i := by
  intro i hi
  by_cases h : i = 3
  · subst h; rfl
  · rw [va_up_ne _ _ h]; simp only [tlC, if_neg h]
theorem tlu_op {x : Bool} : ∀ i, PT i → va_up (tlC cy ad tp tn dn rw ln op bg w cp cb pt pn cn cg er rc re) 3 (.inr (3, [Value.ref (ad 4), Value.ref (ad 5), Value.int (nI ln), Value.int (bI op), Value.int (nI bg), Value.ref (ad 6), Value.ref (ad 7)].set 3 (Value.int (bI x)))) i = tlC cy ad tp tn dn rw ln x bg w cp cb pt pn cn cg er rc re i := by
  intro i hi
  by_cases h : i = 3
  · subst h; rfl
  · rw [va_up_ne _ _ h]; simp only [tlC, if_neg h]
theorem tlu_bg {x : Nat} : ∀ i, PT i → va_up (tlC cy ad tp tn dn rw ln op bg w cp cb pt pn cn cg er rc re) 3 (.inr (3, [Value.ref (ad 4), Value.ref (ad 5), Value.int (nI ln), Value.int (bI op), Value.int (nI bg), Value.ref (ad 6), Value.ref (ad 7)].set 4 (Value.int (nI x)))) i = tlC cy ad tp tn dn rw ln op x w cp cb pt pn cn cg er rc re i := by
  intro i hi
  by_cases h : i = 3
  · subst h; rfl
  · rw [va_up_ne _ _ h]; simp only [tlC, if_neg h]
theorem tlu_pn {x : Nat} : ∀ i, PT i → va_up (tlC cy ad tp tn dn rw ln op bg w cp cb pt pn cn cg er rc re) 7 (.inr (1, [Value.ref (ad 8), Value.int (nI pn)].set 1 (Value.int (nI x)))) i = tlC cy ad tp tn dn rw ln op bg w cp cb pt x cn cg er rc re i := by
  intro i hi
  by_cases h : i = 7
  · subst h; rfl
  · rw [va_up_ne _ _ h]; simp only [tlC, if_neg h]
theorem tlu_rw {x : Nat → Nat} : ∀ i, PT i → va_up (tlC cy ad tp tn dn rw ln op bg w cp cb pt pn cn cg er rc re) 5 (.inl (cy 1, 24, .inl (fun j => nI (x j)))) i = tlC cy ad tp tn dn x ln op bg w cp cb pt pn cn cg er rc re i := by
  intro i hi
  by_cases h : i = 5
  · subst h; rfl
  · rw [va_up_ne _ _ h]; simp only [tlC, if_neg h]
theorem tlu_rc {b x : Nat} (hb : b < 24) : ∀ i, PT i → va_up (tlC cy ad tp tn dn rw ln op bg w cp cb pt pn cn cg er rc re) (10 + b) (.inr (0, [Value.ref (ad (40 + b)), Value.int (nI (er b)), Value.int (nI 0), Value.int (nI (rc b)), Value.int (nI (re b))].set 3 (Value.int (nI x)))) i = tlC cy ad tp tn dn rw ln op bg w cp cb pt pn cn cg er (va_up rc b x) re i := by
  intro i hi
  by_cases h : i = 10 + b
  · subst h; rw [va_up_self, tl_b hb, va_up_self]; rfl
  · rw [va_up_ne _ _ h]
    have h1 : i < 34 → 9 < i → i - 10 ≠ b := by omega
    have hi : i < 9 ∨ (10 ≤ i ∧ i < 34) ∨ (40 ≤ i ∧ i < 64) := hi
    rcases hi with hi | hi | hi
    · rcases (show i = 0 ∨ i = 1 ∨ i = 2 ∨ i = 3 ∨ i = 4 ∨ i = 5 ∨ i = 6 ∨ i = 7 ∨ i = 8 by omega) with rfl | rfl | rfl | rfl | rfl | rfl | rfl | rfl | rfl <;> simp [tlC]
    · obtain ⟨j, rfl⟩ : ∃ j, i = 10 + j := ⟨i - 10, by omega⟩
      rw [tl_b (by omega), tl_b (by omega), va_up_ne _ _ (by omega)]
    · obtain ⟨j, rfl⟩ : ∃ j, i = 40 + j := ⟨i - 40, by omega⟩
      rw [tl_c (by omega), tl_c (by omega)]
theorem tlu_re {b x : Nat} (hb : b < 24) : ∀ i, PT i → va_up (tlC cy ad tp tn dn rw ln op bg w cp cb pt pn cn cg er rc re) (10 + b) (.inr (0, [Value.ref (ad (40 + b)), Value.int (nI (er b)), Value.int (nI 0), Value.int (nI (rc b)), Value.int (nI (re b))].set 4 (Value.int (nI x)))) i = tlC cy ad tp tn dn rw ln op bg w cp cb pt pn cn cg er rc (va_up re b x) i := by
  intro i hi
  by_cases h : i = 10 + b
  · subst h; rw [va_up_self, tl_b hb, va_up_self]; rfl
  · rw [va_up_ne _ _ h]
    have h1 : i < 34 → 9 < i → i - 10 ≠ b := by omega
    have hi : i < 9 ∨ (10 ≤ i ∧ i < 34) ∨ (40 ≤ i ∧ i < 64) := hi
    rcases hi with hi | hi | hi
    · rcases (show i = 0 ∨ i = 1 ∨ i = 2 ∨ i = 3 ∨ i = 4 ∨ i = 5 ∨ i = 6 ∨ i = 7 ∨ i = 8 by omega) with rfl | rfl | rfl | rfl | rfl | rfl | rfl | rfl | rfl <;> simp [tlC]
    · obtain ⟨j, rfl⟩ : ∃ j, i = 10 + j := ⟨i - 10, by omega⟩
      rw [tl_b (by omega), tl_b (by omega), va_up_ne _ _ (by omega)]
    · obtain ⟨j, rfl⟩ : ∃ j, i = 40 + j := ⟨i - 40, by omega⟩
      rw [tl_c (by omega), tl_c (by omega)]
abbrev q_tp : Nat → Nat := fun i => i + 1
theorem qp_tp : ∀ i, lt2 i → PT (q_tp i) := by
  intro i hi
  rcases (show i = 0 ∨ i = 1 by have hi : i < 2 := hi; omega) with rfl | rfl
  · exact (by decide : PT 1)
  · exact (by decide : PT 2)
theorem qi_tp (hd : nd A PT ad) : ∀ i j, lt2 i → lt2 j → ad (q_tp i) = ad (q_tp j) → i = j := by
  refine nd_sub hd (q_tp) (qp_tp) (fun i j hi hj h => ?_)
  have h : (i + 1) = (j + 1) := h
  have hi : i < 2 := hi
  have hj : j < 2 := hj
  rcases (show i = 0 ∨ i = 1 by omega) with rfl | rfl <;> rcases (show j = 0 ∨ j = 1 by omega) with rfl | rfl <;> first | rfl | (exfalso; simp at h; done) | (exfalso; simp at h; omega) | (exfalso; omega)
theorem qs_tp : ∀ i, lt2 i → PT (q_tp i) ∧ tlC cy ad tp tn dn rw ln op bg w cp cb pt pn cn cg er rc re (q_tp i) = byC cy (fun i => ad (q_tp i)) 1060 tp tn i := by
  intro i hi
  refine ⟨qp_tp i hi, ?_⟩
  rcases (show i = 0 ∨ i = 1 by have hi : i < 2 := hi; omega) with rfl | rfl
  · refine tl_1.trans ?_; simp [byC, by2C, cuC, wrC, erC, q_tp]
  · refine tl_2.trans ?_; simp [byC, by2C, cuC, wrC, erC, q_tp]
theorem qj_tp {x : Nat → Nat} {y : Nat}  (h : nw D vcl PT ad (tlC cy ad tp tn dn rw ln op bg w cp cb pt pn cn cg er rc re) H) (hd : nd A PT ad) (hk : ∀ q : Nat, q < H.size → ¬ na lt2 (fun i => ad (q_tp i)) H.size q → H1[q]? = H[q]?) (h1 : nw D vcl lt2 (fun i => ad (q_tp i)) (byC cy (fun i => ad (q_tp i)) 1060 x y) H1) : nw D vcl PT ad (tlC cy ad x y dn rw ln op bg w cp cb pt pn cn cg er rc re) H1 := by
  refine nw_join h hd (q_tp) (qp_tp) hk h1 (fun i hi => ?_) (fun j hj hn => ?_)
  · rcases (show i = 0 ∨ i = 1 by have hi : i < 2 := hi; omega) with rfl | rfl
    · refine tl_1.trans ?_; simp [byC, by2C, cuC, wrC, erC, q_tp]
    · refine tl_2.trans ?_; simp [byC, by2C, cuC, wrC, erC, q_tp]
  have z0 : j ≠ 1 := hn 0 (by decide)
  have z1 : j ≠ 2 := hn 1 (by decide)
  have hj : j < 9 ∨ (10 ≤ j ∧ j < 34) ∨ (40 ≤ j ∧ j < 64) := hj
  rcases hj with hj | hj | hj
  · rcases (show j = 0 ∨ j = 1 ∨ j = 2 ∨ j = 3 ∨ j = 4 ∨ j = 5 ∨ j = 6 ∨ j = 7 ∨ j = 8 by omega) with rfl | rfl | rfl | rfl | rfl | rfl | rfl | rfl | rfl <;> first | (exfalso; revert z0 z1; simp; done) | simp [tlC]
  · obtain ⟨t, rfl⟩ : ∃ t, j = 10 + t := ⟨j - 10, by omega⟩
    rw [tl_b (by omega), tl_b (by omega)]
  · obtain ⟨t, rfl⟩ : ∃ t, j = 40 + t := ⟨j - 40, by omega⟩
    rw [tl_c (by omega), tl_c (by omega)]
abbrev q_pt : Nat → Nat := fun i => i + 7
theorem qp_pt : ∀ i, lt2 i → PT (q_pt i) := by
  intro i hi
  rcases (show i = 0 ∨ i = 1 by have hi : i < 2 := hi; omega) with rfl | rfl
  · exact (by decide : PT 7)
  · exact (by decide : PT 8)
theorem qi_pt (hd : nd A PT ad) : ∀ i j, lt2 i → lt2 j → ad (q_pt i) = ad (q_pt j) → i = j := by
  refine nd_sub hd (q_pt) (qp_pt) (fun i j hi hj h => ?_)
  have h : (i + 7) = (j + 7) := h
  have hi : i < 2 := hi
  have hj : j < 2 := hj
  rcases (show i = 0 ∨ i = 1 by omega) with rfl | rfl <;> rcases (show j = 0 ∨ j = 1 by omega) with rfl | rfl <;> first | rfl | (exfalso; simp at h; done) | (exfalso; simp at h; omega) | (exfalso; omega)
theorem qs_pt : ∀ i, lt2 i → PT (q_pt i) ∧ tlC cy ad tp tn dn rw ln op bg w cp cb pt pn cn cg er rc re (q_pt i) = byC cy (fun i => ad (q_pt i)) 1054 pt pn i := by
  intro i hi
  refine ⟨qp_pt i hi, ?_⟩
  rcases (show i = 0 ∨ i = 1 by have hi : i < 2 := hi; omega) with rfl | rfl
  · refine tl_7.trans ?_; simp [byC, by2C, cuC, wrC, erC, q_pt]
  · refine tl_8.trans ?_; simp [byC, by2C, cuC, wrC, erC, q_pt]
theorem qj_pt {x : Nat → Nat} {y : Nat}  (h : nw D vcl PT ad (tlC cy ad tp tn dn rw ln op bg w cp cb pt pn cn cg er rc re) H) (hd : nd A PT ad) (hk : ∀ q : Nat, q < H.size → ¬ na lt2 (fun i => ad (q_pt i)) H.size q → H1[q]? = H[q]?) (h1 : nw D vcl lt2 (fun i => ad (q_pt i)) (byC cy (fun i => ad (q_pt i)) 1054 x y) H1) : nw D vcl PT ad (tlC cy ad tp tn dn rw ln op bg w cp cb x y cn cg er rc re) H1 := by
  refine nw_join h hd (q_pt) (qp_pt) hk h1 (fun i hi => ?_) (fun j hj hn => ?_)
  · rcases (show i = 0 ∨ i = 1 by have hi : i < 2 := hi; omega) with rfl | rfl
    · refine tl_7.trans ?_; simp [byC, by2C, cuC, wrC, erC, q_pt]
    · refine tl_8.trans ?_; simp [byC, by2C, cuC, wrC, erC, q_pt]
  have z0 : j ≠ 7 := hn 0 (by decide)
  have z1 : j ≠ 8 := hn 1 (by decide)
  have hj : j < 9 ∨ (10 ≤ j ∧ j < 34) ∨ (40 ≤ j ∧ j < 64) := hj
  rcases hj with hj | hj | hj
  · rcases (show j = 0 ∨ j = 1 ∨ j = 2 ∨ j = 3 ∨ j = 4 ∨ j = 5 ∨ j = 6 ∨ j = 7 ∨ j = 8 by omega) with rfl | rfl | rfl | rfl | rfl | rfl | rfl | rfl | rfl <;> first | (exfalso; revert z0 z1; simp; done) | simp [tlC]
  · obtain ⟨t, rfl⟩ : ∃ t, j = 10 + t := ⟨j - 10, by omega⟩
    rw [tl_b (by omega), tl_b (by omega)]
  · obtain ⟨t, rfl⟩ : ∃ t, j = 40 + t := ⟨j - 40, by omega⟩
    rw [tl_c (by omega), tl_c (by omega)]
abbrev q_cu : Nat → Nat := fun i => i + 6
theorem qp_cu : ∀ i, lt1 i → PT (q_cu i) := by
  intro i hi
  rcases (show i = 0 by have hi : i < 1 := hi; omega) with rfl
  · exact (by decide : PT 6)
theorem qi_cu (hd : nd A PT ad) : ∀ i j, lt1 i → lt1 j → ad (q_cu i) = ad (q_cu j) → i = j := by
  refine nd_sub hd (q_cu) (qp_cu) (fun i j hi hj h => ?_)
  have h : (i + 6) = (j + 6) := h
  have hi : i < 1 := hi
  have hj : j < 1 := hj
  rcases (show i = 0 by omega) with rfl <;> rcases (show j = 0 by omega) with rfl <;> first | rfl | (exfalso; simp at h; done) | (exfalso; simp at h; omega) | (exfalso; omega)
theorem qs_cu : ∀ i, lt1 i → PT (q_cu i) ∧ tlC cy ad tp tn dn rw ln op bg w cp cb pt pn cn cg er rc re (q_cu i) = cuC w cp cb i := by
  intro i hi
  refine ⟨qp_cu i hi, ?_⟩
  rcases (show i = 0 by have hi : i < 1 := hi; omega) with rfl
  · refine tl_6.trans ?_; simp [byC, by2C, cuC, wrC, erC, q_cu]
theorem qj_cu {x : Bool} {y z : Nat}  (h : nw D vcl PT ad (tlC cy ad tp tn dn rw ln op bg w cp cb pt pn cn cg er rc re) H) (hd : nd A PT ad) (hk : ∀ q : Nat, q < H.size → ¬ na lt1 (fun i => ad (q_cu i)) H.size q → H1[q]? = H[q]?) (h1 : nw D vcl lt1 (fun i => ad (q_cu i)) (cuC x y z) H1) : nw D vcl PT ad (tlC cy ad tp tn dn rw ln op bg x y z pt pn cn cg er rc re) H1 := by
  refine nw_join h hd (q_cu) (qp_cu) hk h1 (fun i hi => ?_) (fun j hj hn => ?_)
  · rcases (show i = 0 by have hi : i < 1 := hi; omega) with rfl
    · refine tl_6.trans ?_; simp [byC, by2C, cuC, wrC, erC, q_cu]
  have z0 : j ≠ 6 := hn 0 (by decide)
  have hj : j < 9 ∨ (10 ≤ j ∧ j < 34) ∨ (40 ≤ j ∧ j < 64) := hj
  rcases hj with hj | hj | hj
  · rcases (show j = 0 ∨ j = 1 ∨ j = 2 ∨ j = 3 ∨ j = 4 ∨ j = 5 ∨ j = 6 ∨ j = 7 ∨ j = 8 by omega) with rfl | rfl | rfl | rfl | rfl | rfl | rfl | rfl | rfl <;> first | (exfalso; revert z0; simp; done) | simp [tlC]
  · obtain ⟨t, rfl⟩ : ∃ t, j = 10 + t := ⟨j - 10, by omega⟩
    rw [tl_b (by omega), tl_b (by omega)]
  · obtain ⟨t, rfl⟩ : ∃ t, j = 40 + t := ⟨j - 40, by omega⟩
    rw [tl_c (by omega), tl_c (by omega)]
abbrev q_pa : Nat → Nat := fun i => if i < 2 then i + 7 else i - 1
theorem qp_pa : ∀ i, lt4 i → PT (q_pa i) := by
  intro i hi
  rcases (show i = 0 ∨ i = 1 ∨ i = 2 ∨ i = 3 by have hi : i < 4 := hi; omega) with rfl | rfl | rfl | rfl
  · exact (by decide : PT 7)
  · exact (by decide : PT 8)
  · exact (by decide : PT 1)
  · exact (by decide : PT 2)
theorem qi_pa (hd : nd A PT ad) : ∀ i j, lt4 i → lt4 j → ad (q_pa i) = ad (q_pa j) → i = j := by
  refine nd_sub hd (q_pa) (qp_pa) (fun i j hi hj h => ?_)
  have h : (if i < 2 then i + 7 else i - 1) = (if j < 2 then j + 7 else j - 1) := h
  have hi : i < 4 := hi
  have hj : j < 4 := hj
  rcases (show i = 0 ∨ i = 1 ∨ i = 2 ∨ i = 3 by omega) with rfl | rfl | rfl | rfl <;> rcases (show j = 0 ∨ j = 1 ∨ j = 2 ∨ j = 3 by omega) with rfl | rfl | rfl | rfl <;> first | rfl | (exfalso; simp at h; done) | (exfalso; simp at h; omega) | (exfalso; omega)
theorem qs_pa : ∀ i, lt4 i → PT (q_pa i) ∧ tlC cy ad tp tn dn rw ln op bg w cp cb pt pn cn cg er rc re (q_pa i) = by2C cy (fun i => ad (q_pa i)) 1054 pt pn 1060 tp tn i := by
  intro i hi
  refine ⟨qp_pa i hi, ?_⟩
  rcases (show i = 0 ∨ i = 1 ∨ i = 2 ∨ i = 3 by have hi : i < 4 := hi; omega) with rfl | rfl | rfl | rfl
  · refine tl_7.trans ?_; simp [byC, by2C, cuC, wrC, erC, q_pa]
  · refine tl_8.trans ?_; simp [byC, by2C, cuC, wrC, erC, q_pa]
  · refine tl_1.trans ?_; simp [byC, by2C, cuC, wrC, erC, q_pa]
  · refine tl_2.trans ?_; simp [byC, by2C, cuC, wrC, erC, q_pa]
theorem qj_pa {x : Nat → Nat} {y : Nat}  (h : nw D vcl PT ad (tlC cy ad tp tn dn rw ln op bg w cp cb pt pn cn cg er rc re) H) (hd : nd A PT ad) (hk : ∀ q : Nat, q < H.size → ¬ na lt4 (fun i => ad (q_pa i)) H.size q → H1[q]? = H[q]?) (h1 : nw D vcl lt4 (fun i => ad (q_pa i)) (by2C cy (fun i => ad (q_pa i)) 1054 x y 1060 tp tn) H1) : nw D vcl PT ad (tlC cy ad tp tn dn rw ln op bg w cp cb x y cn cg er rc re) H1 := by
  refine nw_join h hd (q_pa) (qp_pa) hk h1 (fun i hi => ?_) (fun j hj hn => ?_)
  · rcases (show i = 0 ∨ i = 1 ∨ i = 2 ∨ i = 3 by have hi : i < 4 := hi; omega) with rfl | rfl | rfl | rfl
    · refine tl_7.trans ?_; simp [byC, by2C, cuC, wrC, erC, q_pa]
    · refine tl_8.trans ?_; simp [byC, by2C, cuC, wrC, erC, q_pa]
    · refine tl_1.trans ?_; simp [byC, by2C, cuC, wrC, erC, q_pa]
    · refine tl_2.trans ?_; simp [byC, by2C, cuC, wrC, erC, q_pa]
  have z0 : j ≠ 7 := hn 0 (by decide)
  have z1 : j ≠ 8 := hn 1 (by decide)
  have z2 : j ≠ 1 := hn 2 (by decide)
  have z3 : j ≠ 2 := hn 3 (by decide)
  have hj : j < 9 ∨ (10 ≤ j ∧ j < 34) ∨ (40 ≤ j ∧ j < 64) := hj
  rcases hj with hj | hj | hj
  · rcases (show j = 0 ∨ j = 1 ∨ j = 2 ∨ j = 3 ∨ j = 4 ∨ j = 5 ∨ j = 6 ∨ j = 7 ∨ j = 8 by omega) with rfl | rfl | rfl | rfl | rfl | rfl | rfl | rfl | rfl <;> first | (exfalso; revert z0 z1 z2 z3; simp; done) | simp [tlC]
  · obtain ⟨t, rfl⟩ : ∃ t, j = 10 + t := ⟨j - 10, by omega⟩
    rw [tl_b (by omega), tl_b (by omega)]
  · obtain ⟨t, rfl⟩ : ∃ t, j = 40 + t := ⟨j - 40, by omega⟩
    rw [tl_c (by omega), tl_c (by omega)]
abbrev q_bk (b : Nat) : Nat → Nat := fun i => if i = 0 then 10 + b else 40 + b
theorem qp_bk {b : Nat} (hb : b < 24) : ∀ i, lt2 i → PT (q_bk b i) := by
  intro i hi
  rcases (show i = 0 ∨ i = 1 by have hi : i < 2 := hi; omega) with rfl | rfl
  · exact PT_b hb
  · exact PT_c hb
theorem qi_bk {b : Nat} (hb : b < 24) (hd : nd A PT ad) : ∀ i j, lt2 i → lt2 j → ad (q_bk b i) = ad (q_bk b j) → i = j := by
  refine nd_sub hd (q_bk b) (qp_bk hb) (fun i j hi hj h => ?_)
  have h : (if i = 0 then 10 + b else 40 + b) = (if j = 0 then 10 + b else 40 + b) := h
  have hi : i < 2 := hi
  have hj : j < 2 := hj
  rcases (show i = 0 ∨ i = 1 by omega) with rfl | rfl <;> rcases (show j = 0 ∨ j = 1 by omega) with rfl | rfl <;> first | rfl | (exfalso; simp at h; done) | (exfalso; simp at h; omega) | (exfalso; omega)
theorem qs_bk {b : Nat} (hb : b < 24) : ∀ i, lt2 i → PT (q_bk b i) ∧ tlC cy ad tp tn dn rw ln op bg w cp cb pt pn cn cg er rc re (q_bk b i) = bkC cy (fun i => ad (q_bk b i)) (cn b) (cg b) (er b) (rc b) (re b) i := by
  intro i hi
  refine ⟨qp_bk hb i hi, ?_⟩
  rcases (show i = 0 ∨ i = 1 by have hi : i < 2 := hi; omega) with rfl | rfl
  · refine (tl_b hb).trans ?_; simp [bkC, wrC, erC, q_bk]
  · refine (tl_c hb).trans ?_; simp [bkC, wrC, erC, q_bk]
theorem qj_bk {b : Nat} (hb : b < 24) {xcg : Nat → Nat} {xer xrc xre : Nat}  (h : nw D vcl PT ad (tlC cy ad tp tn dn rw ln op bg w cp cb pt pn cn cg er rc re) H) (hd : nd A PT ad) (hk : ∀ q : Nat, q < H.size → ¬ na lt2 (fun i => ad (q_bk b i)) H.size q → H1[q]? = H[q]?) (h1 : nw D vcl lt2 (fun i => ad (q_bk b i)) (bkC cy (fun i => ad (q_bk b i)) (cn b) xcg xer xrc xre) H1) : nw D vcl PT ad (tlC cy ad tp tn dn rw ln op bg w cp cb pt pn cn (va_up cg b xcg) (va_up er b xer) (va_up rc b xrc) (va_up re b xre)) H1 := by
  refine nw_join h hd (q_bk b) (qp_bk hb) hk h1 (fun i hi => ?_) (fun j hj hn => ?_)
  · rcases (show i = 0 ∨ i = 1 by have hi : i < 2 := hi; omega) with rfl | rfl
    · refine (tl_b hb).trans ?_; simp [bkC, wrC, erC, va_up_self, q_bk]
    · refine (tl_c hb).trans ?_; simp [bkC, wrC, erC, va_up_self, q_bk]
  have z0 : j ≠ 10 + b := hn 0 (by decide)
  have z1 : j ≠ 40 + b := hn 1 (by decide)
  have hj : j < 9 ∨ (10 ≤ j ∧ j < 34) ∨ (40 ≤ j ∧ j < 64) := hj
  rcases hj with hj | hj | hj
  · rcases (show j = 0 ∨ j = 1 ∨ j = 2 ∨ j = 3 ∨ j = 4 ∨ j = 5 ∨ j = 6 ∨ j = 7 ∨ j = 8 by omega) with rfl | rfl | rfl | rfl | rfl | rfl | rfl | rfl | rfl <;> first | (exfalso; revert z0 z1; simp; done) | simp [tlC]
  · obtain ⟨t, rfl⟩ : ∃ t, j = 10 + t := ⟨j - 10, by omega⟩
    rw [tl_b (by omega), tl_b (by omega)]
    have ht : t ≠ b := by omega
    simp [va_up, ht]
  · obtain ⟨t, rfl⟩ : ∃ t, j = 40 + t := ⟨j - 40, by omega⟩
    rw [tl_c (by omega), tl_c (by omega)]
    have ht : t ≠ b := by omega
    simp [va_up, ht]
abbrev q_wr (b : Nat) : Nat → Nat := fun i => if i = 0 then 10 + b else if i = 1 then 40 + b else if i = 2 then 7 else if i = 3 then 8 else 6
theorem qp_wr {b : Nat} (hb : b < 24) : ∀ i, lt5 i → PT (q_wr b i) := by
  intro i hi
  rcases (show i = 0 ∨ i = 1 ∨ i = 2 ∨ i = 3 ∨ i = 4 by have hi : i < 5 := hi; omega) with rfl | rfl | rfl | rfl | rfl
  · exact PT_b hb
  · exact PT_c hb
  · exact (by decide : PT 7)
  · exact (by decide : PT 8)
  · exact (by decide : PT 6)
theorem qi_wr {b : Nat} (hb : b < 24) (hd : nd A PT ad) : ∀ i j, lt5 i → lt5 j → ad (q_wr b i) = ad (q_wr b j) → i = j := by
  refine nd_sub hd (q_wr b) (qp_wr hb) (fun i j hi hj h => ?_)
  have h : (if i = 0 then 10 + b else if i = 1 then 40 + b else if i = 2 then 7 else if i = 3 then 8 else 6) = (if j = 0 then 10 + b else if j = 1 then 40 + b else if j = 2 then 7 else if j = 3 then 8 else 6) := h
  have hi : i < 5 := hi
  have hj : j < 5 := hj
  rcases (show i = 0 ∨ i = 1 ∨ i = 2 ∨ i = 3 ∨ i = 4 by omega) with rfl | rfl | rfl | rfl | rfl <;> rcases (show j = 0 ∨ j = 1 ∨ j = 2 ∨ j = 3 ∨ j = 4 by omega) with rfl | rfl | rfl | rfl | rfl <;> first | rfl | (exfalso; simp at h; done) | (exfalso; simp at h; omega) | (exfalso; omega)
theorem qs_wr {b : Nat} (hb : b < 24) : ∀ i, lt5 i → PT (q_wr b i) ∧ tlC cy ad tp tn dn rw ln op bg w cp cb pt pn cn cg er rc re (q_wr b i) = wrC cy (fun i => ad (q_wr b i)) (cn b) (cg b) (er b) (rc b) (re b) 1054 pt pn w cp cb i := by
  intro i hi
  refine ⟨qp_wr hb i hi, ?_⟩
  rcases (show i = 0 ∨ i = 1 ∨ i = 2 ∨ i = 3 ∨ i = 4 by have hi : i < 5 := hi; omega) with rfl | rfl | rfl | rfl | rfl
  · refine (tl_b hb).trans ?_; simp [bkC, wrC, erC, q_wr]
  · refine (tl_c hb).trans ?_; simp [bkC, wrC, erC, q_wr]
  · refine tl_7.trans ?_; simp [byC, by2C, cuC, wrC, erC, q_wr]
  · refine tl_8.trans ?_; simp [byC, by2C, cuC, wrC, erC, q_wr]
  · refine tl_6.trans ?_; simp [byC, by2C, cuC, wrC, erC, q_wr]
theorem qj_wr {b : Nat} (hb : b < 24) {xcg : Nat → Nat} {xer xrc xre : Nat} {y : Bool} {z : Nat}  (h : nw D vcl PT ad (tlC cy ad tp tn dn rw ln op bg w cp cb pt pn cn cg er rc re) H) (hd : nd A PT ad) (hk : ∀ q : Nat, q < H.size → ¬ na lt5 (fun i => ad (q_wr b i)) H.size q → H1[q]? = H[q]?) (h1 : nw D vcl lt5 (fun i => ad (q_wr b i)) (wrC cy (fun i => ad (q_wr b i)) (cn b) xcg xer xrc xre 1054 pt pn y z cb) H1) : nw D vcl PT ad (tlC cy ad tp tn dn rw ln op bg y z cb pt pn cn (va_up cg b xcg) (va_up er b xer) (va_up rc b xrc) (va_up re b xre)) H1 := by
  refine nw_join h hd (q_wr b) (qp_wr hb) hk h1 (fun i hi => ?_) (fun j hj hn => ?_)
  · rcases (show i = 0 ∨ i = 1 ∨ i = 2 ∨ i = 3 ∨ i = 4 by have hi : i < 5 := hi; omega) with rfl | rfl | rfl | rfl | rfl
    · refine (tl_b hb).trans ?_; simp [bkC, wrC, erC, va_up_self, q_wr]
    · refine (tl_c hb).trans ?_; simp [bkC, wrC, erC, va_up_self, q_wr]
    · refine tl_7.trans ?_; simp [byC, by2C, cuC, wrC, erC, q_wr]
    · refine tl_8.trans ?_; simp [byC, by2C, cuC, wrC, erC, q_wr]
    · refine tl_6.trans ?_; simp [byC, by2C, cuC, wrC, erC, q_wr]
  have z0 : j ≠ 10 + b := hn 0 (by decide)
  have z1 : j ≠ 40 + b := hn 1 (by decide)
  have z2 : j ≠ 7 := hn 2 (by decide)
  have z3 : j ≠ 8 := hn 3 (by decide)
  have z4 : j ≠ 6 := hn 4 (by decide)
  have hj : j < 9 ∨ (10 ≤ j ∧ j < 34) ∨ (40 ≤ j ∧ j < 64) := hj
  rcases hj with hj | hj | hj
  · rcases (show j = 0 ∨ j = 1 ∨ j = 2 ∨ j = 3 ∨ j = 4 ∨ j = 5 ∨ j = 6 ∨ j = 7 ∨ j = 8 by omega) with rfl | rfl | rfl | rfl | rfl | rfl | rfl | rfl | rfl <;> first | (exfalso; revert z0 z1 z2 z3 z4; simp; done) | simp [tlC]
  · obtain ⟨t, rfl⟩ : ∃ t, j = 10 + t := ⟨j - 10, by omega⟩
    rw [tl_b (by omega), tl_b (by omega)]
    have ht : t ≠ b := by omega
    simp [va_up, ht]
  · obtain ⟨t, rfl⟩ : ∃ t, j = 40 + t := ⟨j - 40, by omega⟩
    rw [tl_c (by omega), tl_c (by omega)]
    have ht : t ≠ b := by omega
    simp [va_up, ht]
end TLC

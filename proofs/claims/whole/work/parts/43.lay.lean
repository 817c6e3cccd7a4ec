/-! the records of a block, on the chip and in the model's rows -/
section LAY
theorem num_congr {f g : Nat → Nat} {a a' : Nat} : ∀ b, (∀ i, i < b → f (a + i) = g (a' + i)) → num f a b = num g a' b
  | 0, _ => rfl
  | b + 1, h => by
    show num f a b * 256 + f (a + b) = num g a' b * 256 + g (a' + b)
    rw [num_congr b (fun i hi => h i (by omega)), h b (by omega)]
theorem num_1 (f : Nat → Nat) (a : Nat) : num f a 1 = f a := by simp [num]
theorem num_2 (f : Nat → Nat) (a : Nat) : num f a 2 = f a * 256 + f (a + 1) := by simp [num]
theorem szf_e (f : Nat → Nat) (p : Nat) : szf f p = 9 + f (p + 5) + (f (p + 6) * 256 + f (p + 7)) := by
  unfold szf
  rw [num_1, num_2]
theorem szf_congr {f g : Nat → Nat} {p : Nat} (h5 : f (p + 5) = g (p + 5)) (h6 : f (p + 6) = g (p + 6)) (h7 : f (p + 7) = g (p + 7)) : szf f p = szf g p := by
  rw [szf_e, szf_e, h5, h6, h7]
/-- the record at p of the cells f is that of the rows ro, at A and what p is behind the beginning -/
def mrec (f ro : Nat → Nat) (A p : Nat) : Prop :=
  f p = ro (A + (p - 6)) ∧ ro (A + (p - 6)) < 128 ∧ num f (p + 1) 4 = num ro (A + (p - 6) + 4) 4 ∧ f (p + 5) = ro (A + (p - 6) + 1) ∧ num f (p + 6) 2 = num ro (A + (p - 6) + 2) 2 ∧ ∀ i, i + 9 < szf f p → f (p + 8 + i) = ro (A + (p - 6) + 9 + i)
def lay (f ro : Nat → Nat) (b n e : Nat) : Prop := pla f n = 6 + e ∧ ∀ q, q < n → whole f (pla f q) = true ∧ mrec f ro (2040 * b) (pla f q)
theorem szf_ge (f : Nat → Nat) (p : Nat) : 9 ≤ szf f p := by unfold szf; omega
theorem pla_s (f : Nat → Nat) (q : Nat) : pla f (q + 1) = pla f q + szf f (pla f q) := rfl
theorem pla_ge (f : Nat → Nat) : ∀ q, 6 + 9 * q ≤ pla f q
  | 0 => Nat.le_refl _
  | q + 1 => by
    have := pla_ge f q
    have := szf_ge f (pla f q)
    rw [pla_s]
    omega
theorem pla_mono (f : Nat → Nat) {q : Nat} : ∀ d, pla f q ≤ pla f (q + d)
  | 0 => Nat.le_refl _
  | d + 1 => by
    have := pla_mono f (q := q) d
    have h := pla_s f (q + d)
    rw [show q + (d + 1) = q + d + 1 by omega, h]
    omega
variable {f ro : Nat → Nat} {b n e : Nat}
theorem lay.len (h : lay f ro b n e) : 9 * n ≤ e := by
  have := pla_ge f n
  rw [h.1] at this
  omega
theorem lay.in_ (h : lay f ro b n e) {q : Nat} (hq : q < n) : pla f q + szf f (pla f q) ≤ 6 + e := by
  have h1 := pla_mono f (q := q + 1) (n - (q + 1))
  rw [show q + 1 + (n - (q + 1)) = n by omega, h.1, pla_s] at h1
  exact h1
theorem lay.scanE (h : lay f ro b n e) (hw : whole f (6 + e) = false) {k : Nat} (hk : n ≤ k) : scan f k 6 = (n, 6 + e) := by
  have aux : ∀ d q k, q + d = n → d ≤ k → scan f k (pla f q) = (d, pla f n) := by
    intro d
    induction d with
    | zero =>
      intro q k hq _
      obtain rfl : q = n := by omega
      cases k with
      | zero => rfl
      | succ k =>
        show (if whole f (pla f q) = true then _ else _) = _
        rw [if_neg]
        rw [h.1, hw]
        decide
    | succ d ih =>
      intro q k hq hk
      cases k with
      | zero => omega
      | succ k =>
        have h1 := ih (q + 1) k (by omega) (by omega)
        rw [pla_s] at h1
        show (if whole f (pla f q) = true then _ else _) = _
        rw [if_pos (h.2 q (by omega)).1, h1]
  have := aux n 0 k (by omega) hk
  rw [h.1] at this
  exact this
theorem lay.plME (h : lay f ro b n e) : ∀ q, q ≤ n → plM ro (2040 * b) q = 2040 * b + (pla f q - 6)
  | 0, _ => by show 2040 * b = 2040 * b + (6 - 6); omega
  | q + 1, hq => by
    have ih := lay.plME h q (by omega)
    obtain ⟨h1, h2⟩ := h.2 q (by omega)
    have h6 := pla_ge f q
    show plM ro (2040 * b) q + (9 + (ro (plM ro (2040 * b) q + 1) + num ro (plM ro (2040 * b) q + 2) 2)) = _
    rw [ih, ← h2.2.2.2.1, ← h2.2.2.2.2.1, pla_s]
    unfold szf
    rw [num_1]
    omega
theorem lay.congr {f' ro' : Nat → Nat} (h : lay f ro b n e) (hf : ∀ j, j < 6 + e → f' j = f j) (hr : ∀ j, j < e → ro' (2040 * b + j) = ro (2040 * b + j)) : lay f' ro' b n e := by
  have hs : ∀ q, q < n → szf f' (pla f q) = szf f (pla f q) := fun q hq => by
    have h1 := h.in_ hq
    have h9 := szf_ge f (pla f q)
    exact szf_congr (hf _ (by omega)) (hf _ (by omega)) (hf _ (by omega))
  have hp : ∀ q, q ≤ n → pla f' q = pla f q := by
    intro q
    induction q with
    | zero => intro _; rfl
    | succ q ih =>
      intro hq
      rw [pla_s, pla_s, ih (by omega), hs q (by omega)]
  refine ⟨by rw [hp n (Nat.le_refl _)]; exact h.1, fun q hq => ?_⟩
  rw [hp q (by omega)]
  obtain ⟨h1, m1, m2, m3, m4, m5, m6⟩ := h.2 q hq
  have hin := h.in_ hq
  have h9 := szf_ge f (pla f q)
  have h6 := pla_ge f q
  have es := hs q hq
  generalize pla f q = p at *
  have hro : ∀ j, p - 6 + j < e → ro' (2040 * b + (p - 6) + j) = ro (2040 * b + (p - 6) + j) := fun j hj => by
    have := hr (p - 6 + j) hj
    rw [← Nat.add_assoc] at this
    exact this
  refine ⟨?_, ?_, ?_, ?_, ?_, ?_, ?_⟩
  · unfold whole at h1 ⊢
    rw [es, hf _ (by omega)]
    exact h1
  · rw [hf _ (by omega), show 2040 * b + (p - 6) = 2040 * b + (p - 6) + 0 from rfl, hro 0 (by omega)]; exact m1
  · rw [show 2040 * b + (p - 6) = 2040 * b + (p - 6) + 0 from rfl, hro 0 (by omega)]; exact m2
  · rw [num_congr (f := f') (g := f) (a' := p + 1) 4 (fun i hi => hf _ (by omega)), num_congr (f := ro') (g := ro) (a' := 2040 * b + (p - 6) + 4) 4 (fun i hi => by
      rw [Nat.add_assoc _ 4 i]; exact hro (4 + i) (by omega))]
    exact m3
  · rw [hf _ (by omega), hro 1 (by omega)]; exact m4
  · rw [num_congr (f := f') (g := f) (a' := p + 6) 2 (fun i hi => hf _ (by omega)), num_congr (f := ro') (g := ro) (a' := 2040 * b + (p - 6) + 2) 2 (fun i hi => by
      rw [Nat.add_assoc _ 2 i]; exact hro (2 + i) (by omega))]
    exact m5
  · intro i hi
    rw [es] at hi
    rw [hf _ (by omega), Nat.add_assoc _ 9 i, hro (9 + i) (by omega), ← Nat.add_assoc _ 9 i]
    exact m6 i hi
theorem lay.snoc (h : lay f ro b n e) (hw : whole f (6 + e) = true) (hm : mrec f ro (2040 * b) (6 + e)) {z : Nat} (hz : szf f (6 + e) = z) : lay f ro b (n + 1) (e + z) := by
  refine ⟨by rw [pla_s, h.1, hz]; omega, fun q hq => ?_⟩
  rcases (show q < n ∨ q = n by omega) with h1 | h1
  · exact h.2 q h1
  · rw [h1, h.1]; exact ⟨hw, hm⟩
theorem whole_fresh {p : Nat} (h : f (p + 6) = 255) : whole f p = false := by
  unfold whole
  rw [decide_eq_false, Bool.false_and]
  rw [szf_e, h]
  omega
theorem whole_torn {R : Nat → Nat} {p d tn k : Nat} (h1 : ∀ j, j < d → f (p + j) = R j) (h2 : ∀ j, d ≤ j → f (p + j) = 255) (hd : d < 9 + tn) (hk : k ≤ tn) (h5 : R 5 = k) (h6 : R 6 = (tn - k) / 256) (h7 : R 7 = (tn - k) % 256) : whole f p = false := by
  by_cases a : d ≤ 6
  · exact whole_fresh (h2 6 a)
  · have e5 : f (p + 5) = k := by rw [h1 5 (by omega), h5]
    have e6 : f (p + 6) = (tn - k) / 256 := by rw [h1 6 (by omega), h6]
    have hl : ∃ s, szf f p = s + 1 ∧ d ≤ s := by
      by_cases c : d = 7
      · have e7 : f (p + 7) = 255 := h2 7 (by omega)
        exact ⟨8 + k + ((tn - k) / 256 * 256 + 255), by rw [szf_e, e5, e6, e7]; omega, by omega⟩
      · have e7 : f (p + 7) = (tn - k) % 256 := by rw [h1 7 (by omega), h7]
        exact ⟨8 + tn, by rw [szf_e, e5, e6, e7]; omega, by omega⟩
    obtain ⟨s, hs, hds⟩ := hl
    unfold whole
    rw [hs, show p + (s + 1) - 1 = p + s by omega, h2 s hds]
    simp
end LAY

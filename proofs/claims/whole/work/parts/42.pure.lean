/-! counting, ranks, searches: nothing of the machine -/
section PUR
theorem cntL_sum (p : Nat → Bool) : ∀ n, cntL p n = sumL p (fun _ => 1) n
  | 0 => rfl
  | n + 1 => by simp only [cntL, sumL, cntL_sum p n]
theorem sumL_congr {p q : Nat → Bool} {co co' : Nat → Nat} : ∀ n, (∀ i, i < n → p i = q i ∧ (p i = true → co i = co' i)) → sumL p co n = sumL q co' n
  | 0, _ => rfl
  | n + 1, h => by
    have h1 := sumL_congr n (fun i hi => h i (by omega))
    obtain ⟨h2, h3⟩ := h n (by omega)
    simp only [sumL, h1, ← h2]
    by_cases hp : p n = true
    · rw [if_pos hp, if_pos hp, h3 hp]
    · rw [if_neg hp, if_neg hp]
theorem sumL_none {p : Nat → Bool} {co : Nat → Nat} : ∀ n, (∀ i, i < n → p i = false) → sumL p co n = 0
  | 0, _ => rfl
  | n + 1, h => by
    simp only [sumL, sumL_none n (fun i hi => h i (by omega)), h n (by omega)]
    rfl
theorem sumL_up {p : Nat → Bool} {co : Nat → Nat} {k : Nat} : ∀ n, k < n → p k = false → sumL (va_up p k true) co n = sumL p co n + co k
  | 0, h, _ => by omega
  | n + 1, h, hp => by
    by_cases hk : k = n
    · subst hk
      have e : sumL (va_up p k true) co k = sumL p co k := sumL_congr k (fun i hi => ⟨va_up_ne _ _ (by omega), fun _ => rfl⟩)
      simp only [sumL, e, va_up_self, hp]
      simp
    · have h1 := sumL_up (p := p) (co := co) n (by omega) hp
      simp only [sumL, h1, va_up_ne p true (show n ≠ k by omega)]
      omega
theorem sum_img (rw co : Nat → Nat) : ∀ t, (∀ u, u < t → rw u < 24) → (∀ u v, u < v → v < t → rw u ≠ rw v) → ∀ p : Nat → Bool, (∀ c, c < 24 → (p c = true ↔ ∃ u, u < t ∧ rw u = c)) → sumL p co 24 = sumR co rw t
  | 0, _, _, p, hp => sumL_none 24 (fun i hi => by
      cases h : p i with
      | false => rfl
      | true => obtain ⟨u, hu, -⟩ := (hp i hi).mp h; omega)
  | t + 1, hr, hi, p, hp => by
    have hrt := hr t (by omega)
    have h1 := sum_img rw co t (fun u hu => hr u (by omega)) (fun u v h1 h2 => hi u v h1 (by omega)) (fun c => p c && decide (c ≠ rw t)) (fun c hc => by
      simp only [Bool.and_eq_true, decide_eq_true_eq, hp c hc]
      constructor
      · rintro ⟨⟨u, hu, e⟩, hne⟩
        refine ⟨u, ?_, e⟩
        rcases (show u < t ∨ u = t by omega) with h | h
        · exact h
        · subst h; exact absurd e.symm hne
      · rintro ⟨u, hu, e⟩
        exact ⟨⟨u, by omega, e⟩, fun h => hi u t hu (by omega) (e.trans h)⟩)
    have h2 : sumL p co 24 = sumL (va_up (fun c => p c && decide (c ≠ rw t)) (rw t) true) co 24 := sumL_congr 24 (fun c hc => ⟨by
      by_cases h : c = rw t
      · subst h; rw [va_up_self]; exact (hp _ hc).mpr ⟨t, by omega, rfl⟩
      · rw [va_up_ne _ _ h]; simp [h], fun _ => rfl⟩)
    rw [h2, sumL_up 24 hrt (by simp), h1]
    rfl
theorem sumR_congr {rc co rw : Nat → Nat} : ∀ n, (∀ t, t < n → rc (rw t) = co (rw t)) → sumR rc rw n = sumR co rw n
  | 0, _ => rfl
  | n + 1, h => by
    show sumR rc rw n + rc (rw n) = sumR co rw n + co (rw n)
    rw [sumR_congr n (fun t ht => h t (by omega)), h n (by omega)]
theorem sumR_one (rw : Nat → Nat) : ∀ n, sumR (fun _ => 1) rw n = n
  | 0 => rfl
  | n + 1 => by
    show sumR (fun _ => 1) rw n + 1 = n + 1
    rw [sumR_one rw n]
theorem cntL_full {p : Nat → Bool} : ∀ n, (∀ i, i < n → p i = true) → cntL p n = n
  | 0, _ => rfl
  | n + 1, h => by simp only [cntL, cntL_full n (fun i hi => h i (by omega)), h n (by omega), if_true]
theorem lea_congr {er : Nat → Nat} {p q : Nat → Bool} : ∀ n, (∀ i, i < n → p i = q i) → lea er p n = lea er q n
  | 0, _ => rfl
  | n + 1, h => by
    simp only [lea, lea_congr n (fun i hi => h i (by omega)), h n (by omega)]
theorem lea_none {er : Nat → Nat} {p : Nat → Bool} : ∀ n, lea er p n = none → ∀ i, i < n → p i = true
  | 0, _, i, hi => by omega
  | n + 1, h, i, hi => by
    unfold lea at h
    by_cases hp : p n = true
    · rw [if_pos hp] at h
      rcases (show i < n ∨ i = n by omega) with h1 | h1
      · exact lea_none n h i h1
      · rw [h1]; exact hp
    · rw [if_neg hp] at h
      split at h
      · exact absurd h (by simp)
      · split at h <;> exact absurd h (by simp)
theorem lea_free {er : Nat → Nat} {p : Nat → Bool} : ∀ {n b : Nat}, lea er p n = some b → p b = false
  | 0, b, h => by simp [lea] at h
  | n + 1, b, h => by
    unfold lea at h
    by_cases hp : p n = true
    · rw [if_pos hp] at h; exact lea_free h
    · rw [if_neg hp] at h
      have hp : p n = false := by simpa using hp
      split at h
      · rw [← Option.some.inj h]; exact hp
      · rename_i b' hb'
        split at h
        · rw [← Option.some.inj h]; exact hp
        · rw [← Option.some.inj h]; exact lea_free hb'
theorem fdR_congr {rc co rw : Nat → Nat} : ∀ j t m, (∀ u, t ≤ u → u < t + j → rc (rw u) = co (rw u)) → fdR rc rw j t m = fdR co rw j t m
  | 0, _, _, _ => rfl
  | j + 1, t, m, h => by
    simp only [fdR, h t (by omega) (by omega), fdR_congr j (t + 1) _ (fun u h1 h2 => h u (by omega) (by omega))]
theorem fdR_spec {rc rw : Nat → Nat} : ∀ {j t m t0 q0 : Nat}, fdR rc rw j t m = some (t0, q0) → t ≤ t0 ∧ t0 < t + j ∧ q0 < rc (rw t0)
  | 0, t, m, t0, q0, h => by simp [fdR] at h
  | j + 1, t, m, t0, q0, h => by
    unfold fdR at h
    split at h
    · rename_i hm
      have h := Option.some.inj h
      simp only [Prod.mk.injEq] at h
      obtain ⟨rfl, rfl⟩ := h
      exact ⟨Nat.le_refl _, by omega, hm⟩
    · have := fdR_spec h
      exact ⟨by omega, by omega, this.2.2⟩
theorem bAt_some {lg : Nat → Bool} {be : Nat → Nat} {i b : Nat} (hl : lg b = true) (hr : rnk lg be b = i) (hu : ∀ c, c < b → ¬ (lg c = true ∧ rnk lg be c = i)) : ∀ j c, c ≤ b → b < c + j → bAt lg be i j c = some b
  | 0, c, h1, h2 => by omega
  | j + 1, c, h1, h2 => by
    unfold bAt
    by_cases hc : c = b
    · subst hc; rw [if_pos ⟨hl, hr⟩]
    · rw [if_neg (hu c (by omega))]
      exact bAt_some hl hr hu j (c + 1) (by omega) (by omega)
theorem bAt_none {lg : Nat → Bool} {be : Nat → Nat} {i : Nat} : ∀ j c, (∀ b, c ≤ b → b < c + j → ¬ (lg b = true ∧ rnk lg be b = i)) → bAt lg be i j c = none
  | 0, _, _ => rfl
  | j + 1, c, h => by
    unfold bAt
    rw [if_neg (h c (Nat.le_refl _) (by omega))]
    exact bAt_none j (c + 1) (fun b h1 h2 => h b (by omega) (by omega))
/-- the log's row: which blocks, in which order -/
def ROW (rw : Nat → Nat) (ln : Nat) (be : Nat → Nat) (lg : Nat → Bool) : Prop := ln ≤ 24 ∧ (∀ t, t < ln → rw t < 24) ∧ (∀ t u, t < u → u < ln → be (rw t) < be (rw u)) ∧ ∀ b, b < 24 → (lg b = true ↔ ∃ t, t < ln ∧ rw t = b)
theorem ROW.inj {rw : Nat → Nat} {ln : Nat} {be : Nat → Nat} {lg : Nat → Bool} (h : ROW rw ln be lg) : ∀ u v, u < v → v < ln → rw u ≠ rw v := fun u v h1 h2 e => by
  have := h.2.2.1 u v h1 h2
  rw [e] at this
  omega
theorem ROW.cnt {rw : Nat → Nat} {ln : Nat} {be : Nat → Nat} {lg : Nat → Bool} (h : ROW rw ln be lg) : cntL lg 24 = ln := by
  rw [cntL_sum, sum_img rw (fun _ => 1) ln h.2.1 h.inj lg h.2.2.2, sumR_one]
theorem ROW.sum {rw : Nat → Nat} {ln : Nat} {be : Nat → Nat} {lg : Nat → Bool} (h : ROW rw ln be lg) (co : Nat → Nat) : sumL lg co 24 = sumR co rw ln := sum_img rw co ln h.2.1 h.inj lg h.2.2.2
theorem ROW.rank {rw : Nat → Nat} {ln : Nat} {be : Nat → Nat} {lg : Nat → Bool} (h : ROW rw ln be lg) {i : Nat} (hi : i < ln) : rnk lg be (rw i) = i := by
  unfold rnk
  rw [cntL_sum, sum_img rw (fun _ => 1) i (fun u hu => h.2.1 u (by omega)) (fun u v h1 h2 => h.inj u v h1 (by omega)) _ (fun c hc => ?_), sumR_one]
  simp only [Bool.and_eq_true, decide_eq_true_eq, h.2.2.2 c hc]
  constructor
  · rintro ⟨⟨u, hu, rfl⟩, hlt⟩
    refine ⟨u, ?_, rfl⟩
    rcases (show u < i ∨ u = i ∨ i < u by omega) with h1 | h1 | h1
    · exact h1
    · subst h1; omega
    · have := h.2.2.1 i u h1 hu; omega
  · rintro ⟨u, hu, rfl⟩
    exact ⟨⟨u, by omega, rfl⟩, h.2.2.1 u i hu hi⟩
theorem ROW.at {rw : Nat → Nat} {ln : Nat} {be : Nat → Nat} {lg : Nat → Bool} (h : ROW rw ln be lg) {i : Nat} (hi : i < ln) : bAt lg be i 24 0 = some (rw i) := by
  have h1 := h.2.1 i hi
  refine bAt_some ((h.2.2.2 _ h1).mpr ⟨i, hi, rfl⟩) (h.rank hi) (fun c hc hh => ?_) 24 0 (by omega) (by omega)
  obtain ⟨u, hu, rfl⟩ := (h.2.2.2 c (by omega)).mp hh.1
  have := h.rank hu
  rw [hh.2] at this
  subst this
  omega
theorem ROW.off {rw : Nat → Nat} {ln : Nat} {be : Nat → Nat} {lg : Nat → Bool} (h : ROW rw ln be lg) {i : Nat} (hi : ln ≤ i) : bAt lg be i 24 0 = none := by
  refine bAt_none 24 0 (fun b _ hb hh => ?_)
  obtain ⟨u, hu, rfl⟩ := (h.2.2.2 b (by omega)).mp hh.1
  have := h.rank hu
  rw [hh.2] at this
  omega
theorem ROW.held {rw : Nat → Nat} {ln : Nat} {be : Nat → Nat} {lg : Nat → Bool} (h : ROW rw ln be lg) {b : Nat} (hb : b < 24) : lg b = heldB rw ln b := by
  have := h.2.2.2 b hb
  unfold heldB
  cases hl : lg b with
  | false =>
    rw [hl] at this
    symm
    exact decide_eq_false (fun q => absurd (this.mpr q) (by decide))
  | true =>
    rw [hl] at this
    symm
    exact decide_eq_true (this.mp rfl)
theorem ROW.leaE {rw : Nat → Nat} {ln : Nat} {be : Nat → Nat} {lg : Nat → Bool} (h : ROW rw ln be lg) (er : Nat → Nat) : lea er (heldB rw ln) 24 = lea er lg 24 := lea_congr 24 (fun i hi => (h.held hi).symm)
theorem ROW.free {rw : Nat → Nat} {ln : Nat} {be : Nat → Nat} {lg : Nat → Bool} (h : ROW rw ln be lg) (er : Nat → Nat) (hn : ln ≠ 24) : ∃ b, lea er lg 24 = some b ∧ b < 24 ∧ lg b = false := by
  cases hl : lea er lg 24 with
  | none => exact absurd (h.cnt.symm.trans (cntL_full 24 (lea_none 24 hl))) hn
  | some b => exact ⟨b, rfl, lea_lt hl, lea_free hl⟩
/-- a block leaves the row -/
theorem ROW.drop {rw : Nat → Nat} {ln : Nat} {be : Nat → Nat} {lg : Nat → Bool} (h : ROW rw ln be lg) {i : Nat} (hi : i < ln) : ROW (dropR rw i (ln - 1)) (ln - 1) be (va_up lg (rw i) false) := by
  have hd : ∀ t, t < ln - 1 → dropR rw i (ln - 1) t = rw (if i ≤ t then t + 1 else t) := fun t ht => by
    unfold dropR
    by_cases h1 : i ≤ t
    · rw [if_pos ⟨h1, ht⟩, if_pos h1]
    · rw [if_neg (fun q => h1 q.1), if_neg h1]
  refine ⟨by have := h.1; omega, fun t ht => ?_, fun t u h1 h2 => ?_, fun b hb => ?_⟩
  · rw [hd t ht]; apply h.2.1; split <;> omega
  · rw [hd t (by omega), hd u h2]
    apply h.2.2.1 <;> split <;> (try split) <;> omega
  · by_cases hbi : b = rw i
    · subst hbi
      rw [va_up_self]
      refine ⟨fun q => absurd q (by decide), fun ⟨t, ht, e⟩ => ?_⟩
      rw [hd t ht] at e
      exfalso
      by_cases h1 : i ≤ t
      · rw [if_pos h1] at e; exact h.inj i (t + 1) (by omega) (by omega) e.symm
      · rw [if_neg h1] at e; exact h.inj t i (by omega) hi e
    · rw [va_up_ne _ _ hbi, h.2.2.2 b hb]
      constructor
      · rintro ⟨t, ht, e⟩
        have hti : t ≠ i := fun q => hbi (by rw [← e, q])
        by_cases h1 : i < t
        · exact ⟨t - 1, by omega, by rw [hd _ (by omega), if_pos (by omega), show t - 1 + 1 = t by omega]; exact e⟩
        · exact ⟨t, by omega, by rw [hd _ (by omega), if_neg (by omega)]; exact e⟩
      · rintro ⟨t, ht, e⟩
        rw [hd t ht] at e
        exact ⟨_, by split <;> omega, e⟩
/-- a new last block -/
theorem ROW.push {rw : Nat → Nat} {ln : Nat} {be : Nat → Nat} {lg : Nat → Bool} (h : ROW rw ln be lg) {b x : Nat} (hn : ln ≠ 24) (hb : b < 24) (hf : lg b = false) (hx : ∀ t, t < ln → be (rw t) < x) : ROW (va_up rw ln b) (ln + 1) (va_up be b x) (va_up lg b true) := by
  have hne : ∀ t, t < ln → rw t ≠ b := fun t ht e => by
    have := (h.2.2.2 b hb).mpr ⟨t, ht, e⟩
    rw [hf] at this
    exact absurd this (by decide)
  refine ⟨by have := h.1; omega, fun t ht => ?_, fun t u h1 h2 => ?_, fun c hc => ?_⟩
  · by_cases e : t = ln
    · rw [e, va_up_self]; exact hb
    · rw [va_up_ne _ _ e]; exact h.2.1 t (by omega)
  · rw [va_up_ne _ _ (show t ≠ ln by omega), va_up_ne _ _ (hne t (by omega))]
    by_cases e : u = ln
    · rw [e, va_up_self, va_up_self]; exact hx t (by omega)
    · rw [va_up_ne _ _ e, va_up_ne _ _ (hne u (by omega))]; exact h.2.2.1 t u h1 (by omega)
  · by_cases e : c = b
    · subst e
      rw [va_up_self]
      exact ⟨fun _ => ⟨ln, by omega, va_up_self _ _ _⟩, fun _ => rfl⟩
    · rw [va_up_ne _ _ e, h.2.2.2 c hc]
      constructor
      · rintro ⟨t, ht, q⟩; exact ⟨t, by omega, by rw [va_up_ne _ _ (by omega)]; exact q⟩
      · rintro ⟨t, ht, q⟩
        by_cases e2 : t = ln
        · rw [e2, va_up_self] at q; exact absurd q.symm e
        · rw [va_up_ne _ _ e2] at q; exact ⟨t, by omega, q⟩
theorem ROW.ord {rw : Nat → Nat} {ln : Nat} {be be' : Nat → Nat} {lg : Nat → Bool} (h : ROW rw ln be lg) (he : ∀ t, t < ln → be' (rw t) = be (rw t)) : ROW rw ln be' lg := ⟨h.1, h.2.1, fun t u h1 h2 => by rw [he t (by omega), he u h2]; exact h.2.2.1 t u h1 h2, h.2.2.2⟩
theorem insP_last {f rw : Nat → Nat} {x : Nat} {n : Nat} (h : ∀ t, t < n → f (rw t) ≤ x) : insP f rw x n = n := by
  cases n with
  | zero => rfl
  | succ n =>
    unfold insP
    rw [if_neg]
    have := h n (by omega)
    omega
theorem insR_last {f rw : Nat → Nat} {b n : Nat} (h : ∀ t, t < n → f (rw t) ≤ f b) : insR f rw b n = va_up rw n b := by
  unfold insR
  rw [insP_last h, shR_0]
theorem insP_spec {f rw : Nat → Nat} {x : Nat} : ∀ {n}, (∀ t u, t < u → u < n → f (rw t) < f (rw u)) → (∀ t, t < insP f rw x n → f (rw t) ≤ x) ∧ ∀ t, insP f rw x n ≤ t → t < n → x < f (rw t)
  | 0, _ => ⟨fun t h => by simp [insP] at h, fun t _ h => by omega⟩
  | n + 1, hs => by
    unfold insP
    by_cases hx : x < f (rw n)
    · rw [if_pos hx]
      obtain ⟨h1, h2⟩ := insP_spec (n := n) (fun t u a b => hs t u a (by omega))
      refine ⟨h1, fun t ht hn => ?_⟩
      rcases (show t < n ∨ t = n by omega) with h | h
      · exact h2 t ht h
      · rw [h]; exact hx
    · rw [if_neg hx]
      refine ⟨fun t ht => ?_, fun t h1 h2 => by omega⟩
      rcases (show t < n ∨ t = n by omega) with h | h
      · have := hs t n h (by omega); omega
      · rw [h]; omega
/-- a block enters the row, by f -/
theorem ins_sorted {f rw : Nat → Nat} {b n : Nat} (hs : ∀ t u, t < u → u < n → f (rw t) < f (rw u)) (hb : ∀ t, t < n → f (rw t) ≠ f b) : (∀ t u, t < u → u < n + 1 → f (insR f rw b n t) < f (insR f rw b n u)) ∧ ∀ c, (∃ t, t < n + 1 ∧ insR f rw b n t = c) ↔ ((∃ t, t < n ∧ rw t = c) ∨ c = b) := by
  obtain ⟨h1, h2⟩ := insP_spec (x := f b) hs
  have hle := insP_le f rw (f b) n
  generalize hp : insP f rw (f b) n = p at h1 h2 hle
  have hv : ∀ t, insR f rw b n t = if t = p then b else if p < t ∧ t ≤ n then rw (t - 1) else rw t := fun t => by
    unfold insR
    rw [hp]
    by_cases h : t = p
    · rw [h, va_up_self, if_pos rfl]
    · rw [va_up_ne _ _ h, if_neg h]; rfl
  have lo : ∀ t, t < p → f (rw t) < f b := fun t ht => by have := h1 t ht; have := hb t (by omega); omega
  have hi : ∀ t, p ≤ t → t < n → f b < f (rw t) := h2
  constructor
  · intro t u htu hu
    rw [hv t, hv u]
    by_cases e1 : t = p
    · rw [if_pos e1, if_neg (by omega), if_pos ⟨by omega, by omega⟩]
      exact hi _ (by omega) (by omega)
    · rw [if_neg e1]
      by_cases e2 : u = p
      · rw [if_pos e2, if_neg (by omega)]
        exact lo t (by omega)
      · rw [if_neg e2]
        by_cases a1 : p < t
        · rw [if_pos ⟨a1, by omega⟩, if_pos ⟨by omega, by omega⟩]; exact hs _ _ (by omega) (by omega)
        · rw [if_neg (fun q => a1 q.1)]
          by_cases a2 : p < u
          · rw [if_pos ⟨a2, by omega⟩]
            rcases (show t < u - 1 ∨ t = u - 1 by omega) with a3 | a3
            · exact hs _ _ a3 (by omega)
            · omega
          · rw [if_neg (fun q => a2 q.1)]; exact hs _ _ htu (by omega)
  · intro c
    constructor
    · rintro ⟨t, ht, e⟩
      rw [hv t] at e
      by_cases e1 : t = p
      · rw [if_pos e1] at e; exact Or.inr e.symm
      · rw [if_neg e1] at e
        by_cases a1 : p < t ∧ t ≤ n
        · rw [if_pos a1] at e; exact Or.inl ⟨t - 1, by omega, e⟩
        · rw [if_neg a1] at e; exact Or.inl ⟨t, by omega, e⟩
    · rintro (⟨t, ht, e⟩ | e)
      · by_cases a1 : t < p
        · exact ⟨t, by omega, by rw [hv t, if_neg (by omega), if_neg (by omega)]; exact e⟩
        · exact ⟨t + 1, by omega, by rw [hv, if_neg (by omega), if_pos ⟨by omega, by omega⟩]; exact e⟩
      · exact ⟨p, by omega, by rw [hv, if_pos rfl]; exact e.symm⟩
end PUR

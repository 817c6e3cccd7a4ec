/-! the class's state and the model's: how they belong together -/
section REL
/-- of one block -/
def BF (cn : Nat → Nat) (cg : Nat → Nat → Nat) (be co fi ro : Nat → Nat) (bg bn b : Nat) : Prop :=
  (cn b = 0 ∨ cn b = 2048) ∧ (∀ j, j < cn b → cg b j < 256) ∧ co b ≤ 226 ∧ fi b ≤ 2040 ∧ (begB cn cg b = true ↔ 0 < be b) ∧ (0 < be b → orB cn cg b ≤ bg ∧ be b ≤ bn ∧ lay (fB cn cg b) ro b (co b) (fi b) ∧ whole (fB cn cg b) (6 + fi b) = false)
def CHP (cn : Nat → Nat) (cg : Nat → Nat → Nat) (be co fi ro : Nat → Nat) (bg bn : Nat) : Prop :=
  (∀ b, b < 24 → BF cn cg be co fi ro bg bn b) ∧ (∀ j, j < 48960 → ro j < 256) ∧ ∀ b c, b < 24 → c < 24 → 0 < be b → 0 < be c → (orB cn cg b < orB cn cg c ↔ be b < be c) ∧ (be b = be c → b = c)
def TAP (tp : Nat → Nat) (tn cp cb : Nat) : Prop := tn ≤ 1060 ∧ (∀ j, tp j < 256) ∧ cp < 2 ^ 31 ∧ cb < 2 ^ 31
def CNN (n bg bn : Nat) (er : Nat → Nat) : Prop := bg ≤ n ∧ bn ≤ n ∧ ∀ b, b < 24 → er b ≤ n
def LGR (rw : Nat → Nat) (ln : Nat) (be : Nat → Nat) (lg : Nat → Bool) (rc re co fi : Nat → Nat) : Prop := ROW rw ln be lg ∧ (∀ t, t < ln → 0 < be (rw t) ∧ rc (rw t) = co (rw t) ∧ re (rw t) = 6 + fi (rw t)) ∧ ∀ b, b < 24 → rc b < 2 ^ 16 ∧ re b < 2 ^ 16
def OPN (dn op : Bool) (oq : Option Nat) (rw : Nat → Nat) (ln : Nat) (cn : Nat → Nat) (cg : Nat → Nat → Nat) (fi : Nat → Nat) : Prop :=
  dn = false → (op = true ∧ 0 < ln ∧ oq = some (rw (ln - 1)) ∧ cn (rw (ln - 1)) = 2048 ∧ ∀ j, 6 + fi (rw (ln - 1)) ≤ j → j < 2048 → cg (rw (ln - 1)) j = 255) ∨ (op = false ∧ oq = none)
variable {cn : Nat → Nat} {cg : Nat → Nat → Nat} {be co fi ro rw rc re er tp pt g0 : Nat → Nat} {bg bn ln tn b : Nat} {lg : Nat → Bool}
theorem fB_ne {x : Nat} {g : Nat → Nat} {c : Nat} (h : c ≠ b) : fB (va_up cn b x) (va_up cg b g) c = fB cn cg c := by
  unfold fB
  rw [va_up_ne _ _ h, va_up_ne _ _ h]
theorem fB_eq {x : Nat} {g : Nat → Nat} : fB (va_up cn b x) (va_up cg b g) b = vc x g := by
  unfold fB
  rw [va_up_self, va_up_self]
theorem begB_e (c : Nat) : begB cn cg c = (decide (fB cn cg c 0 = 90) && decide (fB cn cg c 5 = 90)) := rfl
theorem orB_e (c : Nat) : orB cn cg c = num (fB cn cg c) 1 4 := rfl
theorem begB_ne {x : Nat} {g : Nat → Nat} {c : Nat} (h : c ≠ b) : begB (va_up cn b x) (va_up cg b g) c = begB cn cg c := by rw [begB_e, begB_e, fB_ne h]
theorem orB_ne {x : Nat} {g : Nat → Nat} {c : Nat} (h : c ≠ b) : orB (va_up cn b x) (va_up cg b g) c = orB cn cg c := by rw [orB_e, orB_e, fB_ne h]
/-- one block changes -/
theorem CHP.upd (h : CHP cn cg be co fi ro bg bn) {x y c0 f0 bg' bn' : Nat} {g ro' : Nat → Nat} (h1 : BF (va_up cn b x) (va_up cg b g) (va_up be b y) (va_up co b c0) (va_up fi b f0) ro' bg' bn' b)
    (hro : ∀ c, c < 24 → c ≠ b → ∀ j, j < 2040 → ro' (2040 * c + j) = ro (2040 * c + j)) (hro2 : ∀ j, j < 48960 → ro' j < 256) (hg : bg ≤ bg') (hn : bn ≤ bn')
    (hord : 0 < y → ∀ c, c < 24 → c ≠ b → 0 < be c → (orB cn cg c < num (vc x g) 1 4 ↔ be c < y) ∧ (num (vc x g) 1 4 < orB cn cg c ↔ y < be c) ∧ be c ≠ y) : CHP (va_up cn b x) (va_up cg b g) (va_up be b y) (va_up co b c0) (va_up fi b f0) ro' bg' bn' := by
  have ob : orB (va_up cn b x) (va_up cg b g) b = num (vc x g) 1 4 := by rw [orB_e, fB_eq]
  refine ⟨fun c hc => ?_, hro2, fun c d hc hd pc pd => ?_⟩
  · by_cases e : c = b
    · subst e; exact h1
    · obtain ⟨a1, a2, a3, a4, a5, a6⟩ := h.1 c hc
      unfold BF
      rw [va_up_ne cn x e, va_up_ne cg g e, va_up_ne be y e, va_up_ne co c0 e, va_up_ne fi f0 e, begB_ne e, orB_ne e, fB_ne e]
      refine ⟨a1, a2, a3, a4, a5, fun hp => ?_⟩
      obtain ⟨b1, b2, b3, b4⟩ := a6 hp
      exact ⟨by omega, by omega, b3.congr (fun _ _ => rfl) (fun j hj => hro c hc e j (by omega)), b4⟩
  · by_cases e : c = b
    · by_cases e2 : d = b
      · rw [e, e2]; exact ⟨⟨fun q => absurd q (by omega), fun q => absurd q (by omega)⟩, fun _ => rfl⟩
      · have pc' : 0 < y := by rw [e, va_up_self] at pc; exact pc
        have pd' : 0 < be d := by rw [va_up_ne _ _ e2] at pd; exact pd
        obtain ⟨o1, o2, o3⟩ := hord pc' d hd e2 pd'
        rw [e, va_up_self, va_up_ne be y e2, ob, orB_ne e2]
        exact ⟨o2, fun q => absurd q.symm o3⟩
    · by_cases e2 : d = b
      · have pd' : 0 < y := by rw [e2, va_up_self] at pd; exact pd
        have pc' : 0 < be c := by rw [va_up_ne _ _ e] at pc; exact pc
        obtain ⟨o1, o2, o3⟩ := hord pd' c hc e pc'
        rw [e2, va_up_self, va_up_ne be y e, ob, orB_ne e]
        exact ⟨o1, fun q => absurd q o3⟩
      · have pc' : 0 < be c := by rw [va_up_ne _ _ e] at pc; exact pc
        have pd' : 0 < be d := by rw [va_up_ne _ _ e2] at pd; exact pd
        rw [va_up_ne be y e, va_up_ne be y e2, orB_ne e, orB_ne e2]
        exact h.2.2 c d hc hd pc' pd'
/-! mounting -/
theorem mo_inv (h : CHP cn cg be co fi ro bg bn) : ∀ i, i ≤ 24 → (∀ t u, t < u → u < moL cn cg i → orB cn cg (moR cn cg rw i t) < orB cn cg (moR cn cg rw i u)) ∧ ∀ c, (∃ t, t < moL cn cg i ∧ moR cn cg rw i t = c) ↔ (c < i ∧ begB cn cg c = true)
  | 0, _ => ⟨fun t u _ h => by simp [moL] at h, fun c => ⟨fun ⟨t, ht, _⟩ => by simp [moL] at ht, fun q => by omega⟩⟩
  | i + 1, hi => by
    obtain ⟨h1, h2⟩ := mo_inv h i (by omega)
    by_cases hb : begB cn cg i = true
    · rw [moL_s hb, moR_s hb]
      obtain ⟨s1, s2⟩ := ins_sorted (f := orB cn cg) (rw := moR cn cg rw i) (b := i) (n := moL cn cg i) h1 (fun t ht e => by
        obtain ⟨c1, c2⟩ := (h2 _).mp ⟨t, ht, rfl⟩
        generalize moR cn cg rw i t = c at c1 c2 e
        have p1 := (h.1 c (by omega)).2.2.2.2.1.mp c2
        have p2 := (h.1 i (by omega)).2.2.2.2.1.mp hb
        obtain ⟨o1, o2⟩ := h.2.2 c i (by omega) (by omega) p1 p2
        obtain ⟨o3, -⟩ := h.2.2 i c (by omega) (by omega) p2 p1
        have : be c = be i := by
          rcases Nat.lt_trichotomy (be c) (be i) with q | q | q
          · have := o1.mpr q; omega
          · exact q
          · have := o3.mpr q; omega
        have := o2 this
        omega)
      refine ⟨s1, fun c => ?_⟩
      rw [s2 c, h2 c]
      constructor
      · rintro (⟨a, b⟩ | e)
        · exact ⟨by omega, b⟩
        · rw [e]; exact ⟨by omega, hb⟩
      · rintro ⟨a, b⟩
        rcases (show c < i ∨ c = i by omega) with q | q
        · exact Or.inl ⟨q, b⟩
        · exact Or.inr q
    · have e1 : moL cn cg (i + 1) = moL cn cg i := by simp [moL, hb]
      have e2 : moR cn cg rw (i + 1) = moR cn cg rw i := by simp [moR, hb]
      rw [e1, e2]
      refine ⟨h1, fun c => ?_⟩
      rw [h2 c]
      constructor
      · rintro ⟨a, b⟩; exact ⟨by omega, b⟩
      · rintro ⟨a, b⟩
        rcases (show c < i ∨ c = i by omega) with q | q
        · exact ⟨q, b⟩
        · rw [q] at b; exact absurd b hb
theorem CHP.sc (h : CHP cn cg be co fi ro bg bn) {c : Nat} (hc : c < 24) (hb : begB cn cg c = true) : scan (fB cn cg c) 226 6 = (co c, 6 + fi c) := by
  obtain ⟨a1, a2, a3, a4, a5, a6⟩ := h.1 c hc
  obtain ⟨b1, b2, b3, b4⟩ := a6 (a5.mp hb)
  exact b3.scanE b4 a3
theorem CHP.mount (h : CHP cn cg be co fi ro bg bn) (hq : ∀ b, b < 24 → rc b < 2 ^ 16 ∧ re b < 2 ^ 16) : LGR (moR cn cg rw 24) (moL cn cg 24) be (mtL be lg 24) (moC cn cg rc 24) (moE cn cg re 24) co fi := by
  obtain ⟨h1, h2⟩ := mo_inv (rw := rw) h 24 (Nat.le_refl _)
  have hin : ∀ t, t < moL cn cg 24 → moR cn cg rw 24 t < 24 ∧ begB cn cg (moR cn cg rw 24 t) = true := fun t ht => (h2 _).mp ⟨t, ht, rfl⟩
  have hp : ∀ t, t < moL cn cg 24 → 0 < be (moR cn cg rw 24 t) := fun t ht => (h.1 _ (hin t ht).1).2.2.2.2.1.mp (hin t ht).2
  have hC : ∀ c, c < 24 → begB cn cg c = true → moC cn cg rc 24 c = co c ∧ moE cn cg re 24 c = 6 + fi c := fun c hc hb => by
    have := h.sc hc hb
    unfold moC moE
    rw [if_pos ⟨hc, hb⟩, if_pos ⟨hc, hb⟩, this]
    exact ⟨rfl, rfl⟩
  refine ⟨⟨moL_le 24, fun t ht => (hin t ht).1, fun t u a b => ?_, fun c hc => ?_⟩, fun t ht => ⟨hp t ht, hC _ (hin t ht).1 (hin t ht).2⟩, fun c hc => ?_⟩
  · exact (h.2.2 _ _ (hin t (by omega)).1 (hin u b).1 (hp t (by omega)) (hp u b)).1.mp (h1 t u a b)
  · unfold mtL
    rw [if_pos hc, decide_eq_true_eq, ← (h.1 c hc).2.2.2.2.1, h2 c]
    exact ⟨fun q => ⟨hc, q⟩, fun q => q.2⟩
  · by_cases hb : begB cn cg c = true
    · obtain ⟨q1, q2⟩ := hC c hc hb
      have := (h.1 c hc).2.2.1
      have := (h.1 c hc).2.2.2.1
      rw [q1, q2]
      omega
    · unfold moC moE
      rw [if_neg (fun q => hb q.2), if_neg (fun q => hb q.2)]
      exact hq c hc
theorem LGR.drop (h : LGR rw ln be lg rc re co fi) {i : Nat} (hi : i < ln) : LGR (dropR rw i (ln - 1)) (ln - 1) be (va_up lg (rw i) false) rc re co fi := by
  refine ⟨h.1.drop hi, fun t ht => ?_, h.2.2⟩
  have : ∃ u, u < ln ∧ dropR rw i (ln - 1) t = rw u := by
    unfold dropR
    by_cases h1 : i ≤ t ∧ t < ln - 1
    · rw [if_pos h1]; exact ⟨t + 1, by omega, rfl⟩
    · rw [if_neg h1]; exact ⟨t, by omega, rfl⟩
  obtain ⟨u, hu, e⟩ := this
  rw [e]
  exact h.2.1 u hu
/-! a record's bytes, in the part and in the rows -/
theorem up4_at {g : Nat → Nat} {k : Nat} {v : Int32} {i : Nat} (hi : i < 4) : up4 g k v (k + i) = nb v (3 - i) := by
  rcases (show i = 0 ∨ i = 1 ∨ i = 2 ∨ i = 3 by omega) with rfl | rfl | rfl | rfl <;> simp [up4, va_up]
theorem RB_0 {kd mo k : Nat} : RB pt kd mo k tn tp 0 = kd := by
  unfold RB
  rw [va_up_ne _ _ (by omega), upN_lt (by omega), va_up_ne _ _ (by omega), va_up_ne _ _ (by omega), va_up_ne _ _ (by omega)]
  simp [up4, va_up]
theorem RB_m {kd mo k i : Nat} (hi : i < 4) : RB pt kd mo k tn tp (1 + i) = nb (nI mo) (3 - i) := by
  unfold RB
  rw [va_up_ne _ _ (by omega), upN_lt (by omega), va_up_ne _ _ (by omega), va_up_ne _ _ (by omega), va_up_ne _ _ (by omega), up4_at hi]
theorem RB_5 {kd mo k : Nat} : RB pt kd mo k tn tp 5 = k := by
  unfold RB
  rw [va_up_ne _ _ (by omega), upN_lt (by omega), va_up_ne _ _ (by omega), va_up_ne _ _ (by omega), va_up_self]
theorem RB_6 {kd mo k : Nat} : RB pt kd mo k tn tp 6 = (tn - k) / 256 := by
  unfold RB
  rw [va_up_ne _ _ (by omega), upN_lt (by omega), va_up_ne _ _ (by omega), va_up_self]
theorem RB_7 {kd mo k : Nat} : RB pt kd mo k tn tp 7 = (tn - k) % 256 := by
  unfold RB
  rw [va_up_ne _ _ (by omega), upN_lt (by omega), va_up_self]
theorem RB_c {kd mo k i : Nat} (hi : i < tn) : RB pt kd mo k tn tp (8 + i) = tp i := by
  unfold RB
  rw [va_up_ne _ _ (by omega), upN_in hi]
theorem RB_e {kd mo k : Nat} : RB pt kd mo k tn tp (8 + tn) = 90 := by
  unfold RB
  rw [va_up_self]
variable {kd mo k a : Nat}
theorem mRB_o {j : Nat} (h : j < a ∨ a + 9 + tn ≤ j) : mRB ro a kd mo k tn tp j = ro j := by
  unfold mRB mRM mRH
  rcases h with h | h
  · rw [upN_lt (by omega), upN_lt (by omega), va_up_ne _ _ (by omega), va_up_ne _ _ (by omega), va_up_ne _ _ (by omega), va_up_ne _ _ (by omega)]
  · rw [upN_ge (by omega), upN_ge (by omega), va_up_ne _ _ (by omega), va_up_ne _ _ (by omega), va_up_ne _ _ (by omega), va_up_ne _ _ (by omega)]
theorem mRB_0 : mRB ro a kd mo k tn tp a = kd := by
  unfold mRB mRM mRH
  rw [upN_lt (by omega), upN_lt (by omega), va_up_ne _ _ (by omega), va_up_ne _ _ (by omega), va_up_ne _ _ (by omega), va_up_self]
theorem mRB_1 : mRB ro a kd mo k tn tp (a + 1) = k := by
  unfold mRB mRM mRH
  rw [upN_lt (by omega), upN_lt (by omega), va_up_ne _ _ (by omega), va_up_ne _ _ (by omega), va_up_self]
theorem mRB_2 : mRB ro a kd mo k tn tp (a + 2) = (tn - k) / 256 := by
  unfold mRB mRM mRH
  rw [upN_lt (by omega), upN_lt (by omega), va_up_ne _ _ (by omega), va_up_self]
theorem mRB_3 : mRB ro a kd mo k tn tp (a + 3) = (tn - k) % 256 := by
  unfold mRB mRM mRH
  rw [upN_lt (by omega), upN_lt (by omega), va_up_self]
theorem mRB_m {i : Nat} (hi : i < 4) : mRB ro a kd mo k tn tp (a + 4 + i) = nb (nI mo) (3 - i) := by
  unfold mRB mRM
  rw [upN_lt (by omega), upN_in hi]
theorem mRB_c {i : Nat} (hi : i < tn) : mRB ro a kd mo k tn tp (a + 9 + i) = tp i := by
  unfold mRB
  rw [upN_in hi]
theorem mRB_lt (hr : ∀ j, j < 48960 → ro j < 256) (hkd : kd < 256) (hk : k < 256) (hv : tn - k < 65536) (ht : ∀ j, tp j < 256) : ∀ j, j < 48960 → mRB ro a kd mo k tn tp j < 256 := by
  unfold mRB mRM mRH
  refine upN_256 (upN_256 (fun j hj => ?_) (fun j _ => nb_lt _ _)) (fun j _ => ht j)
  exact va_up_lt (n := 48960) (by omega) (fun j hj _ => va_up_lt (n := 48960) (by omega) (fun j hj _ => va_up_lt (n := 48960) (by omega) (fun j hj _ => va_up_lt (n := 48960) (by omega) (fun j hj _ => hr j hj) j hj) j hj) j hj) j hj
end REL

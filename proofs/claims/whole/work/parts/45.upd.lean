/-! what a call does to the chip, on both sides -/
section UPD
variable {cn : Nat → Nat} {cg : Nat → Nat → Nat} {be co fi ro rw rc re er tp pt g0 : Nat → Nat} {bg bn ln tn b kd mo k n : Nat} {lg : Nat → Bool} {dn op : Bool} {oq : Option Nat}
theorem vc_in_ {g : Nat → Nat} {j : Nat} (h : j < n) : vc n g j = g j := by unfold vc; rw [if_pos h]
theorem vc_out {g : Nat → Nat} {j : Nat} (h : n ≤ j) : vc n g j = 255 := by unfold vc; rw [if_neg (by omega)]
theorem vu_lo {g R : Nat → Nat} {a d j : Nat} (h : j < a) : vc n (upN g a R d) j = vc n g j := by
  unfold vc
  rw [upN_lt h]
theorem vu_in {g R : Nat → Nat} {a d i : Nat} (h : i < d) (hn : a + d ≤ n) : vc n (upN g a R d) (a + i) = R i := by
  rw [vc_in_ (by omega), upN_in h]
theorem vu_hi {g R : Nat → Nat} {a d j : Nat} (hg : ∀ j, a ≤ j → j < n → g j = 255) (h : a + d ≤ j) : vc n (upN g a R d) j = 255 := by
  by_cases q : j < n
  · rw [vc_in_ q, upN_ge h]; exact hg j (by omega) q
  · exact vc_out (by omega)
theorem cut_lt {w : Bool} {cp cb z : Nat} (hz : 0 < z) (h : cutN w cp cb z ≠ z) : cutN w cp cb z < z := by
  unfold cutN at *
  by_cases q : w = true ∧ cp = 0
  · rw [if_pos q] at *; omega
  · rw [if_neg q] at h; exact absurd rfl h
theorem cut_T {w : Bool} {cp cb z : Nat} (hz : 0 < z) : cutN w cp cb z = z ↔ cutF w cp = false := by
  constructor
  · intro h
    cases q : cutF w cp with
    | false => rfl
    | true => rw [cutN_F q] at h; omega
  · exact cutN_T
theorem cut_F {w : Bool} {cp cb z : Nat} (hz : 0 < z) : cutN w cp cb z ≠ z ↔ cutF w cp = true := by
  rw [Ne, cut_T hz]
  cases cutF w cp <;> simp
theorem cutP_lt {w : Bool} {cp : Nat} (h : cp < 2 ^ 31) : cutP w cp < 2 ^ 31 := by
  unfold cutP
  split <;> omega
/-- four bytes are the number -/
theorem num_nb {f : Nat → Nat} {a m : Nat} (hm : m < 2 ^ 31) (h : ∀ i, i < 4 → f (a + i) = nb (nI m) (3 - i)) : num f a 4 = m := by
  have h0 := h 0 (by omega)
  have h1 := h 1 (by omega)
  have h2 := h 2 (by omega)
  have h3 := h 3 (by omega)
  simp only [num]
  rw [h0, h1, h2, h3]
  unfold nb
  rw [pk_tn (by omega)]
  simp
  omega
/-- the record behind the last -/
theorem rec_at {f R : Nat → Nat} {e : Nat} (hR : ∀ i, i < 9 + tn → f (6 + e + i) = RB pt kd mo k tn tp i) (hk : k ≤ tn) (hkd : kd < 128) : szf f (6 + e) = 9 + tn ∧ mrec f (mRB ro (2040 * b + e) kd mo k tn tp) (2040 * b) (6 + e) := by
  have e5 : f (6 + e + 5) = k := by rw [hR 5 (by omega), RB_5]
  have e6 : f (6 + e + 6) = (tn - k) / 256 := by rw [hR 6 (by omega), RB_6]
  have e7 : f (6 + e + 7) = (tn - k) % 256 := by rw [hR 7 (by omega), RB_7]
  have hs : szf f (6 + e) = 9 + tn := by rw [szf_e, e5, e6, e7]; omega
  refine ⟨hs, ?_⟩
  unfold mrec
  rw [show 2040 * b + (6 + e - 6) = 2040 * b + e by omega, hs]
  refine ⟨?_, ?_, ?_, ?_, ?_, ?_⟩
  · have := hR 0 (by omega)
    rw [Nat.add_zero] at this
    rw [this, RB_0, mRB_0]
  · rw [mRB_0]; exact hkd
  · exact num_congr 4 (fun i hi => by
      rw [mRB_m hi, Nat.add_assoc (6 + e) 1 i, hR (1 + i) (by omega), RB_m hi])
  · rw [e5, mRB_1]
  · rw [num_2, num_2, e6, e7, mRB_2, show 2040 * b + e + 2 + 1 = 2040 * b + e + 3 by omega, mRB_3]
  · intro i hi
    rw [mRB_c (show i < tn by omega), Nat.add_assoc (6 + e) 8 i, hR (8 + i) (by omega), RB_c (by omega)]
/-- a record is written -/
theorem CHP.rec (h : CHP cn cg be co fi ro bg bn) (hb : b < 24) (hc : cn b = 2048) (hp : 0 < be b) (h255 : ∀ j, 6 + fi b ≤ j → j < 2048 → cg b j = 255) (hkd : kd < 128) (hk : k ≤ tn) (hk2 : k < 256) (htk : tn - k < 65536) (ht : ∀ j, tp j < 256) (hr : fi b + 9 + tn ≤ 2040) :
    CHP cn (va_up cg b (upN (cg b) (6 + fi b) (RB pt kd mo k tn tp) (9 + tn))) be (va_up co b (co b + 1)) (va_up fi b (fi b + (9 + tn))) (mRB ro (2040 * b + fi b) kd mo k tn tp) bg bn := by
  obtain ⟨a1, a2, a3, a4, a5, a6⟩ := h.1 b hb
  obtain ⟨b1, b2, b3, b4⟩ := a6 hp
  have hlo : ∀ j, j < 6 + fi b → vc 2048 (upN (cg b) (6 + fi b) (RB pt kd mo k tn tp) (9 + tn)) j = fB cn cg b j := fun j hj => by
    show _ = vc (cn b) (cg b) j
    rw [hc]
    exact vu_lo hj
  have hor : num (vc 2048 (upN (cg b) (6 + fi b) (RB pt kd mo k tn tp) (9 + tn))) 1 4 = orB cn cg b := num_congr 4 (fun i hi => hlo _ (by omega))
  have hbe := h.2.2 b
  obtain ⟨hs, hm⟩ := rec_at (f := vc 2048 (upN (cg b) (6 + fi b) (RB pt kd mo k tn tp) (9 + tn))) (R := tp) (ro := ro) (b := b) (e := fi b) (fun i hi => vu_in hi (by omega)) hk hkd
  have hw : whole (vc 2048 (upN (cg b) (6 + fi b) (RB pt kd mo k tn tp) (9 + tn))) (6 + fi b) = true := by
    unfold whole
    rw [hs, show 6 + fi b + (9 + tn) - 1 = 6 + fi b + (8 + tn) by omega, vu_in (by omega) (by omega), RB_e]
    simp
    omega
  have hl := (b3.congr (f' := vc 2048 (upN (cg b) (6 + fi b) (RB pt kd mo k tn tp) (9 + tn))) (ro' := mRB ro (2040 * b + fi b) kd mo k tn tp) hlo (fun j hj => mRB_o (Or.inl (by omega)))).snoc hw hm hs
  have key := CHP.upd (x := 2048) (y := be b) (c0 := co b + 1) (f0 := fi b + (9 + tn)) (bg' := bg) (bn' := bn) (g := upN (cg b) (6 + fi b) (RB pt kd mo k tn tp) (9 + tn)) (ro' := mRB ro (2040 * b + fi b) kd mo k tn tp) h (b := b) ?_ (fun c hc hne j hj => mRB_o (by omega)) (mRB_lt h.2.1 (by omega) hk2 htk ht) (Nat.le_refl _) (Nat.le_refl _) ?_
  · rw [← hc, va_up_id, va_up_id] at key
    exact key
  · unfold BF
    rw [va_up_self, va_up_self, va_up_self, va_up_self, va_up_self, begB_e, orB_e, fB_eq, hlo 0 (by omega), hlo 5 (by omega), ← begB_e, hor]
    have := hl.len
    refine ⟨Or.inr rfl, upN_256 (fun j hj => a2 j (by rw [hc]; exact hj)) (fun j hj => RB_lt (by omega) hk2 htk (fun j _ => ht j) j hj), by omega, by omega, a5, fun _ => ⟨b1, b2, hl, ?_⟩⟩
    exact whole_fresh (vu_hi h255 (by omega))
  · intro _ c hc hne pc
    rw [hor]
    obtain ⟨o1, o2⟩ := h.2.2 c b hc hb pc hp
    obtain ⟨o3, -⟩ := h.2.2 b c hb hc hp pc
    exact ⟨o1, o3, fun q => hne (o2 q)⟩
/-- a record is written in part -/
theorem CHP.torn (h : CHP cn cg be co fi ro bg bn) (hb : b < 24) (hc : cn b = 2048) (hp : 0 < be b) (h255 : ∀ j, 6 + fi b ≤ j → j < 2048 → cg b j = 255) {d : Nat} (hd : d < 9 + tn) (hkd : kd < 128) (hk : k ≤ tn) (hk2 : k < 256) (htk : tn - k < 65536) (ht : ∀ j, tp j < 256) (hr : fi b + 9 + tn ≤ 2040) :
    CHP cn (va_up cg b (upN (cg b) (6 + fi b) (RB pt kd mo k tn tp) d)) be co fi ro bg bn := by
  obtain ⟨a1, a2, a3, a4, a5, a6⟩ := h.1 b hb
  obtain ⟨b1, b2, b3, b4⟩ := a6 hp
  have hlo : ∀ j, j < 6 + fi b → vc 2048 (upN (cg b) (6 + fi b) (RB pt kd mo k tn tp) d) j = fB cn cg b j := fun j hj => by
    show _ = vc (cn b) (cg b) j
    rw [hc]
    exact vu_lo hj
  have hor : num (vc 2048 (upN (cg b) (6 + fi b) (RB pt kd mo k tn tp) d)) 1 4 = orB cn cg b := num_congr 4 (fun i hi => hlo _ (by omega))
  have hl := b3.congr (f' := vc 2048 (upN (cg b) (6 + fi b) (RB pt kd mo k tn tp) d)) (ro' := ro) hlo (fun j hj => rfl)
  have key := CHP.upd (x := 2048) (y := be b) (c0 := co b) (f0 := fi b) (bg' := bg) (bn' := bn) (g := upN (cg b) (6 + fi b) (RB pt kd mo k tn tp) d) (ro' := ro) h (b := b) ?_ (fun c hc hne j hj => rfl) h.2.1 (Nat.le_refl _) (Nat.le_refl _) ?_
  · rw [← hc, va_up_id, va_up_id, va_up_id, va_up_id] at key
    exact key
  · unfold BF
    rw [va_up_self, va_up_self, va_up_self, va_up_self, va_up_self, begB_e, orB_e, fB_eq, hlo 0 (by omega), hlo 5 (by omega), ← begB_e, hor]
    refine ⟨Or.inr rfl, upN_256 (fun j hj => a2 j (by rw [hc]; exact hj)) (fun j hj => RB_lt (by omega) hk2 htk (fun j _ => ht j) j (by omega)), a3, a4, a5, fun _ => ⟨b1, b2, hl, ?_⟩⟩
    exact whole_torn (R := RB pt kd mo k tn tp) (d := d) (tn := tn) (k := k) (fun j hj => vu_in hj (by omega)) (fun j hj => vu_hi h255 (by omega)) hd hk RB_5 RB_6 RB_7
  · intro _ c hc hne pc
    rw [hor]
    obtain ⟨o1, o2⟩ := h.2.2 c b hc hb pc hp
    obtain ⟨o3, -⟩ := h.2.2 b c hb hc hp pc
    exact ⟨o1, o3, fun q => hne (o2 q)⟩
theorem PB_0 {x : Nat} : PB pt x 0 = 90 := by
  unfold PB
  rw [va_up_ne _ _ (by omega)]
  simp [up4, va_up]
theorem PB_m {x i : Nat} (hi : i < 4) : PB pt x (1 + i) = nb (nI (x + 1)) (3 - i) := by
  unfold PB
  rw [va_up_ne _ _ (by omega), up4_at hi]
theorem PB_5 {x : Nat} : PB pt x 5 = 90 := by
  unfold PB
  rw [va_up_self]
theorem G2_in {x d j : Nat} (h : j < d) : G2 g0 pt x d j = PB pt x j := by
  unfold G2
  have := upN_in (g := fil g0 2048) (b := PB pt x) (k := 0) h
  rwa [Nat.zero_add] at this
theorem G2_hi {x d j : Nat} (h : d ≤ j) (hj : j < 2048) : G2 g0 pt x d j = 255 := by
  unfold G2
  rw [upN_ge (by omega)]
  exact fil_all hj
theorem G2_lt {x d : Nat} (hd : d ≤ 6) : ∀ j, j < 2048 → G2 g0 pt x d j < 256 := by
  intro j hj
  by_cases h : j < d
  · rw [G2_in h]; exact PB_lt j (by omega)
  · rw [G2_hi (by omega) hj]; omega
/-- a block is begun -/
theorem CHP.begin (h : CHP cn cg be co fi ro bg bn) (hb : b < 24) (hbg : bg < 2 ^ 30) :
    CHP (va_up cn b 2048) (va_up cg b (G2 g0 pt bg 6)) (va_up be b (bn + 1)) (va_up co b 0) (va_up fi b 0) ro (bg + 1) (bn + 1) ∧ orB (va_up cn b 2048) (va_up cg b (G2 g0 pt bg 6)) b = bg + 1 := by
  have hor : num (vc 2048 (G2 g0 pt bg 6)) 1 4 = bg + 1 := num_nb (by omega) (fun i hi => by rw [vc_in_ (by omega), G2_in (by omega), PB_m hi])
  refine ⟨CHP.upd h ?_ (fun c hc hne j hj => rfl) h.2.1 (by omega) (by omega) ?_, by rw [orB_e, fB_eq, hor]⟩
  · unfold BF
    rw [va_up_self, va_up_self, va_up_self, va_up_self, va_up_self, begB_e, orB_e, fB_eq, hor, vc_in_ (by omega), vc_in_ (by omega), G2_in (by omega), G2_in (by omega), PB_0, PB_5]
    refine ⟨Or.inr rfl, G2_lt (Nat.le_refl _), by omega, by omega, ⟨fun _ => by omega, fun _ => rfl⟩, fun _ => ⟨Nat.le_refl _, Nat.le_refl _, ⟨rfl, fun q hq => by omega⟩, ?_⟩⟩
    exact whole_fresh (by rw [vc_in_ (by omega), G2_hi (by omega) (by omega)])
  · intro _ c hc hne pc
    obtain ⟨a1, a2, a3, a4, a5, a6⟩ := h.1 c hc
    obtain ⟨b1, b2, -⟩ := a6 pc
    rw [hor]
    omega
/-- a block without a beginning -/
theorem CHP.none (h : CHP cn cg be co fi ro bg bn) (hb : b < 24) {g : Nat → Nat} {bg' : Nat} (hbg : bg ≤ bg') (hg : ∀ j, j < 2048 → g j < 256) (h0 : g 0 ≠ 90 ∨ g 5 ≠ 90) : CHP (va_up cn b 2048) (va_up cg b g) (va_up be b 0) co fi ro bg' bn := by
  obtain ⟨a1, a2, a3, a4, a5, a6⟩ := h.1 b hb
  have key := CHP.upd (x := 2048) (y := 0) (c0 := co b) (f0 := fi b) (bg' := bg') (bn' := bn) (g := g) (ro' := ro) h (b := b) ?_ (fun c hc hne j hj => rfl) h.2.1 hbg (Nat.le_refl _) (fun q => absurd q (by omega))
  · rw [va_up_id, va_up_id] at key
    exact key
  · unfold BF
    rw [va_up_self, va_up_self, va_up_self, va_up_self, va_up_self, begB_e, orB_e, fB_eq, vc_in_ (by omega), vc_in_ (by omega)]
    refine ⟨Or.inr rfl, hg, a3, a4, ?_, fun q => absurd q (by omega)⟩
    simp
    omega
/-- an erase that erased nothing -/
theorem CHP.same (h : CHP cn cg be co fi ro bg bn) (hb : b < 24) (hc : (cn b = 0 ∧ g0 = fun _ => 0) ∨ (cn b = 2048 ∧ g0 = cg b)) : CHP (va_up cn b 2048) (va_up cg b (fil g0 0)) be co fi ro bg bn := by
  rw [fil_0]
  rcases hc with ⟨c1, c2⟩ | ⟨c1, c2⟩
  · obtain ⟨a1, a2, a3, a4, a5, a6⟩ := h.1 b hb
    have hz : be b = 0 := by
      have hb : begB cn cg b = false := by
        rw [begB_e]
        show (decide (vc (cn b) (cg b) 0 = 90) && decide (vc (cn b) (cg b) 5 = 90)) = false
        rw [c1, vc_out (by omega)]
        rfl
      rw [hb] at a5
      rcases Nat.eq_zero_or_pos (be b) with q | q
      · exact q
      · exact absurd (a5.mpr q) (by decide)
    have := CHP.none h hb (g := g0) (Nat.le_refl _) (fun j _ => by rw [c2]; show 0 < 256; omega) (Or.inl (by rw [c2]; decide))
    rw [← hz, va_up_id] at this
    exact this
  · rw [c2, ← c1, va_up_id, va_up_id]
    exact h
theorem CHP.tornErase (h : CHP cn cg be co fi ro bg bn) (hb : b < 24) (hc : (cn b = 0 ∧ g0 = fun _ => 0) ∨ (cn b = 2048 ∧ g0 = cg b)) (hg : ∀ j, j < 2048 → g0 j < 256) {d : Nat} : CHP (va_up cn b 2048) (va_up cg b (fil g0 d)) (if 0 < d then va_up be b 0 else be) co fi ro bg bn := by
  by_cases q : 0 < d
  · rw [if_pos q]
    refine CHP.none h hb (Nat.le_refl _) (fun j hj => ?_) (Or.inl ?_)
    · unfold fil
      split
      · omega
      · exact hg j hj
    · unfold fil
      rw [if_pos q]
      omega
  · obtain rfl : d = 0 := by omega
    rw [if_neg q]
    exact h.same hb hc
theorem CHP.tornBegin (h : CHP cn cg be co fi ro bg bn) (hb : b < 24) {d : Nat} (hd : d < 6) : CHP (va_up cn b 2048) (va_up cg b (G2 g0 pt bg d)) (va_up be b 0) co fi ro (bg + 1) bn :=
  CHP.none h hb (by omega) (G2_lt (by omega)) (Or.inr (by rw [G2_hi (by omega) (by omega)]; omega))
/-! the log -/
theorem LGR.open_ (h : LGR rw ln be lg rc re co fi) (hl : 0 < ln) : rw (ln - 1) < 24 ∧ 0 < be (rw (ln - 1)) ∧ rc (rw (ln - 1)) = co (rw (ln - 1)) ∧ re (rw (ln - 1)) = 6 + fi (rw (ln - 1)) := ⟨h.1.2.1 _ (by omega), h.2.1 _ (by omega)⟩
theorem LGR.rec (h : LGR rw ln be lg rc re co fi) (hb : b = rw (ln - 1)) (hl : 0 < ln) {x y : Nat} (hx : co b + x < 2 ^ 16) (hy : 6 + fi b + y < 2 ^ 16) : LGR rw ln be lg (va_up rc b (rc b + x)) (va_up re b (re b + y)) (va_up co b (co b + x)) (va_up fi b (fi b + y)) := by
  obtain ⟨q1, q2, q3, q4⟩ := h.open_ hl
  rw [← hb] at q1 q2 q3 q4
  refine ⟨h.1, fun t ht => ?_, fun c hc => ?_⟩
  · obtain ⟨r1, r2, r3⟩ := h.2.1 t ht
    by_cases e : rw t = b
    · rw [e] at r1 ⊢
      rw [va_up_self, va_up_self, va_up_self, va_up_self]
      exact ⟨r1, by omega, by omega⟩
    · rw [va_up_ne _ _ e, va_up_ne _ _ e, va_up_ne _ _ e, va_up_ne _ _ e]
      exact ⟨r1, r2, r3⟩
  · by_cases e : c = b
    · rw [e, va_up_self, va_up_self]
      omega
    · rw [va_up_ne _ _ e, va_up_ne _ _ e]
      exact h.2.2 c hc
theorem LGR.be_ne (h : LGR rw ln be lg rc re co fi) (hb : b < 24) (hf : lg b = false) {x : Nat} : LGR rw ln (va_up be b x) lg rc re co fi := by
  have hne : ∀ t, t < ln → rw t ≠ b := fun t ht e => by
    have := (h.1.2.2.2 b hb).mpr ⟨t, ht, e⟩
    rw [hf] at this
    exact absurd this (by decide)
  refine ⟨h.1.ord (fun t ht => va_up_ne _ _ (hne t ht)), fun t ht => ?_, h.2.2⟩
  rw [va_up_ne _ _ (hne t ht)]
  exact h.2.1 t ht
theorem LGR.push (h : LGR rw ln be lg rc re co fi) (hn : ln ≠ 24) (hb : b < 24) (hf : lg b = false) (hc : ∀ b, b < 24 → be b ≤ bn) : LGR (va_up rw ln b) (ln + 1) (va_up be b (bn + 1)) (va_up lg b true) (va_up rc b 0) (va_up re b 6) (va_up co b 0) (va_up fi b 0) := by
  have hne : ∀ t, t < ln → rw t ≠ b := fun t ht e => by
    have := (h.1.2.2.2 b hb).mpr ⟨t, ht, e⟩
    rw [hf] at this
    exact absurd this (by decide)
  refine ⟨h.1.push hn hb hf (fun t ht => ?_), fun t ht => ?_, fun c hc => ?_⟩
  · have := hc _ (h.1.2.1 t ht); omega
  · by_cases e : t = ln
    · rw [e, va_up_self, va_up_self, va_up_self, va_up_self, va_up_self, va_up_self]
      exact ⟨by omega, rfl, rfl⟩
    · rw [va_up_ne _ _ e, va_up_ne _ _ (hne t (by omega)), va_up_ne _ _ (hne t (by omega)), va_up_ne _ _ (hne t (by omega)), va_up_ne _ _ (hne t (by omega)), va_up_ne _ _ (hne t (by omega))]
      exact h.2.1 t (by omega)
  · by_cases e : c = b
    · rw [e, va_up_self, va_up_self]; omega
    · rw [va_up_ne _ _ e, va_up_ne _ _ e]; exact h.2.2 c hc
theorem CHP.be_le (h : CHP cn cg be co fi ro bg bn) : ∀ b, b < 24 → be b ≤ bn := fun b hb => by
  obtain ⟨a1, a2, a3, a4, a5, a6⟩ := h.1 b hb
  rcases Nat.eq_zero_or_pos (be b) with q | q
  · omega
  · exact (a6 q).2.1
theorem CHP.or_le (h : CHP cn cg be co fi ro bg bn) (hb : b < 24) (hp : 0 < be b) : orB cn cg b ≤ bg := ((h.1 b hb).2.2.2.2.2 hp).1
end UPD

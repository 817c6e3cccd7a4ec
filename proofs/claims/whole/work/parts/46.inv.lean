/-! the class's state and the model's together, and what the calls do to them -/
section INVS
def INV (n : Nat) (tp : Nat → Nat) (tn : Nat) (dn : Bool) (rw : Nat → Nat) (ln : Nat) (op : Bool) (bg cp cb : Nat) (cn : Nat → Nat) (cg : Nat → Nat → Nat) (er rc re be : Nat → Nat) (lg : Nat → Bool) (co fi : Nat → Nat) (bn : Nat) (oq : Option Nat) (ro : Nat → Nat) : Prop :=
  TAP tp tn cp cb ∧ CNN n bg bn er ∧ CHP cn cg be co fi ro bg bn ∧ LGR rw ln be lg rc re co fi ∧ OPN dn op oq rw ln cn cg fi
variable {cn : Nat → Nat} {cg : Nat → Nat → Nat} {be co fi ro rw rc re er tp pt g0 : Nat → Nat} {bg bn ln tn b kd mo k n cp cb : Nat} {lg : Nat → Bool} {dn op w : Bool} {oq : Option Nat}
theorem CNN.mono {m : Nat} (h : CNN n bg bn er) (hm : n ≤ m) : CNN m bg bn er := ⟨Nat.le_trans h.1 hm, Nat.le_trans h.2.1 hm, fun b hb => Nat.le_trans (h.2.2 b hb) hm⟩
theorem INV.mono {m : Nat} (h : INV n tp tn dn rw ln op bg cp cb cn cg er rc re be lg co fi bn oq ro) (hm : n ≤ m) : INV m tp tn dn rw ln op bg cp cb cn cg er rc re be lg co fi bn oq ro := ⟨h.1, h.2.1.mono hm, h.2.2⟩
theorem INV.tape (h : INV n tp tn dn rw ln op bg cp cb cn cg er rc re be lg co fi bn oq ro) {tp' : Nat → Nat} {tn' cp' cb' : Nat} (hT : TAP tp' tn' cp' cb') : INV n tp' tn' dn rw ln op bg cp' cb' cn cg er rc re be lg co fi bn oq ro := ⟨hT, h.2⟩
theorem INV.HL (h : INV n tp tn dn rw ln op bg cp cb cn cg er rc re be lg co fi bn oq ro) : ln ≤ 24 := h.2.2.2.1.1.1
theorem INV.HR (h : INV n tp tn dn rw ln op bg cp cb cn cg er rc re be lg co fi bn oq ro) : ∀ i, i < ln → rw i < 24 := h.2.2.2.1.1.2.1
theorem INV.HC (h : INV n tp tn dn rw ln op bg cp cb cn cg er rc re be lg co fi bn oq ro) : ∀ b, b < 24 → cn b < 2 ^ 16 := fun b hb => by
  have := (h.2.2.1.1 b hb).1
  omega
theorem INV.HG (h : INV n tp tn dn rw ln op bg cp cb cn cg er rc re be lg co fi bn oq ro) : ∀ b, b < 24 → ∀ j, j < cn b → cg b j < 256 := fun b hb => (h.2.2.1.1 b hb).2.1
theorem INV.HQ (h : INV n tp tn dn rw ln op bg cp cb cn cg er rc re be lg co fi bn oq ro) : ∀ b, b < 24 → rc b < 2 ^ 16 ∧ re b < 2 ^ 16 := h.2.2.2.1.2.2
theorem INV.HM (h : INV n tp tn dn rw ln op bg cp cb cn cg er rc re be lg co fi bn oq ro) : ∀ b, b < 24 → fi b ≤ 2040 ∧ co b < 2 ^ 16 := fun b hb => by
  have h1 := (h.2.2.1.1 b hb).2.2.1
  have h2 := (h.2.2.1.1 b hb).2.2.2.1
  omega
theorem INV.HN (h : INV n tp tn dn rw ln op bg cp cb cn cg er rc re be lg co fi bn oq ro) : ∀ b, b < 24 → co b < 2 ^ 16 := fun b hb => (h.HM b hb).2
theorem INV.HB (h : INV n tp tn dn rw ln op bg cp cb cn cg er rc re be lg co fi bn oq ro) (hn : n < 512) : ∀ b, b < 24 → be b < 2 ^ 31 := fun b hb => by
  have h1 := h.2.2.1.be_le b hb
  have h2 := h.2.1.2.1
  omega
theorem INV.HO (h : INV n tp tn dn rw ln op bg cp cb cn cg er rc re be lg co fi bn oq ro) : ∀ j, j < 48960 → ro j < 256 := h.2.2.1.2.1
theorem INV.HE (h : INV n tp tn dn rw ln op bg cp cb cn cg er rc re be lg co fi bn oq ro) (hn : n < 512) : ∀ b, b < 24 → er b < 2 ^ 30 := fun b hb => by
  have h1 := h.2.1.2.2 b hb
  omega
/-- a block of the row: how its records lie -/
theorem INV.lay_ (h : INV n tp tn dn rw ln op bg cp cb cn cg er rc re be lg co fi bn oq ro) {t : Nat} (ht : t < ln) : lay (fB cn cg (rw t)) ro (rw t) (rc (rw t)) (fi (rw t)) ∧ fi (rw t) ≤ 2040 ∧ rw t < 24 := by
  have h1 := h.HR t ht
  obtain ⟨a1, a2, a3, a4, a5, a6⟩ := h.2.2.1.1 _ h1
  obtain ⟨q1, q2, q3⟩ := h.2.2.2.1.2.1 t ht
  obtain ⟨b1, b2, b3, b4⟩ := a6 q1
  rw [q2]
  exact ⟨b3, a4, h1⟩
theorem INV.HP (h : INV n tp tn dn rw ln op bg cp cb cn cg er rc re be lg co fi bn oq ro) : ∀ t, t < ln → ∀ q, q < rc (rw t) → pla (fB cn cg (rw t)) q < 2048 := fun t ht q hq => by
  obtain ⟨l1, l2, l3⟩ := h.lay_ ht
  have := l1.in_ hq
  have := szf_ge (fB cn cg (rw t)) (pla (fB cn cg (rw t)) q)
  omega
theorem INV.rcE (h : INV n tp tn dn rw ln op bg cp cb cn cg er rc re be lg co fi bn oq ro) {t : Nat} (ht : t < ln) : rc (rw t) = co (rw t) := (h.2.2.2.1.2.1 t ht).2.1
theorem INV.HPM (h : INV n tp tn dn rw ln op bg cp cb cn cg er rc re be lg co fi bn oq ro) : ∀ t, t < ln → ∀ q, q < co (rw t) → plM ro (2040 * rw t) q + 9 ≤ 48960 := fun t ht q hq => by
  obtain ⟨l1, l2, l3⟩ := h.lay_ ht
  rw [← h.rcE ht] at hq
  rw [l1.plME q (by omega)]
  have h1 := l1.in_ hq
  have h2 := szf_ge (fB cn cg (rw t)) (pla (fB cn cg (rw t)) q)
  have h3 := pla_ge (fB cn cg (rw t)) q
  generalize pla (fB cn cg (rw t)) q = p at *
  generalize rw t = b at *
  omega
theorem INV.hrow (h : INV n tp tn dn rw ln op bg cp cb cn cg er rc re be lg co fi bn oq ro) : ∀ t, t < ln → bAt lg be t 24 0 = some (rw t) ∧ rw t < 24 := fun t ht => ⟨h.2.2.2.1.1.at ht, h.HR t ht⟩
theorem INV.hln (h : INV n tp tn dn rw ln op bg cp cb cn cg er rc re be lg co fi bn oq ro) : cntL lg 24 = ln := h.2.2.2.1.1.cnt
theorem INV.fdE (h : INV n tp tn dn rw ln op bg cp cb cn cg er rc re be lg co fi bn oq ro) (i : Nat) : fdR co rw ln 0 i = fdR rc rw ln 0 i := (fdR_congr ln 0 i (fun u _ hu => h.rcE (by omega))).symm
theorem INV.sumE (h : INV n tp tn dn rw ln op bg cp cb cn cg er rc re be lg co fi bn oq ro) : sumL lg co 24 = sumR rc rw ln := by
  rw [h.2.2.2.1.1.sum co]
  exact (sumR_congr ln (fun t ht => h.rcE ht)).symm
/-- the open block, and what is behind its records -/
def OPEN (rw : Nat → Nat) (ln : Nat) (oq : Option Nat) (cn : Nat → Nat) (cg : Nat → Nat → Nat) (fi : Nat → Nat) : Prop := 0 < ln ∧ oq = some (rw (ln - 1)) ∧ cn (rw (ln - 1)) = 2048 ∧ ∀ j, 6 + fi (rw (ln - 1)) ≤ j → j < 2048 → cg (rw (ln - 1)) j = 255
theorem INV.rec (h : INV n tp tn false rw ln op bg cp cb cn cg er rc re be lg co fi bn oq ro) (hO : OPEN rw ln oq cn cg fi) (hop : op = true) (hkd : kd < 128) (hk : k ≤ tn) (hk2 : k < 256) (htk : tn - k < 65536) (hb : rw (ln - 1) = b) (hr : fi b + 9 + tn ≤ 2040) {cp' : Nat} (hcp : cp' < 2 ^ 31) :
    INV n tp 0 false rw ln op bg cp' cb cn (va_up cg b (upN (cg b) (re b) (RB pt kd mo k tn tp) (9 + tn))) er (va_up rc b (rc b + 1)) (va_up re b (re b + (9 + tn))) be lg (va_up co b (co b + 1)) (va_up fi b (fi b + (9 + tn))) bn oq (mRB ro (2040 * b + fi b) kd mo k tn tp) := by
  obtain ⟨hT, hN, hC, hL, -⟩ := h
  obtain ⟨o1, o2, o3, o4⟩ := hO
  obtain ⟨q1, q2, q3, q4⟩ := hL.open_ o1
  rw [hb] at o2 o3 o4 q1 q2 q3 q4
  have hC' := hC.rec (pt := pt) (kd := kd) (mo := mo) (k := k) (tp := tp) (tn := tn) q1 o3 q2 o4 hkd hk hk2 htk hT.2.1 hr
  have h1 := (hC.1 b q1).2.2.1
  have h2 := (hC.1 b q1).2.2.2.1
  refine ⟨⟨by omega, hT.2.1, hcp, hT.2.2.2⟩, hN, ?_, hL.rec hb.symm o1 (by omega) (by omega), fun _ => Or.inl ⟨hop, o1, by rw [hb]; exact o2, by rw [hb]; exact o3, fun j h1 h2 => ?_⟩⟩
  · rw [q4]; exact hC'
  · rw [hb, va_up_self] at h1 ⊢
    rw [q4, upN_ge (by omega)]
    exact o4 j (by omega) h2
theorem INV.torn (h : INV n tp tn false rw ln op bg cp cb cn cg er rc re be lg co fi bn oq ro) (hO : OPEN rw ln oq cn cg fi) (hkd : kd < 128) (hk : k ≤ tn) (hk2 : k < 256) (htk : tn - k < 65536) (hb : rw (ln - 1) = b) (hr : fi b + 9 + tn ≤ 2040) {cp' d : Nat} (hcp : cp' < 2 ^ 31) (hd : d < 9 + tn) :
    INV n tp 0 true rw ln op bg cp' cb cn (va_up cg b (upN (cg b) (re b) (RB pt kd mo k tn tp) d)) er rc re be lg co fi bn oq ro := by
  obtain ⟨hT, hN, hC, hL, -⟩ := h
  obtain ⟨o1, o2, o3, o4⟩ := hO
  obtain ⟨q1, q2, q3, q4⟩ := hL.open_ o1
  rw [hb] at o2 o3 o4 q1 q2 q3 q4
  have hC' := hC.torn (pt := pt) (kd := kd) (mo := mo) (k := k) (tp := tp) (tn := tn) q1 o3 q2 o4 hd hkd hk hk2 htk hT.2.1 hr
  refine ⟨⟨by omega, hT.2.1, hcp, hT.2.2.2⟩, hN, ?_, hL, fun q => absurd q (by decide)⟩
  rw [q4]; exact hC'
theorem CNN.er_ (h : CNN n bg bn er) (hb : b < 24) {bg' bn' : Nat} (h1 : bg' ≤ n + 1) (h2 : bn' ≤ n + 1) : CNN (n + 1) bg' bn' (va_up er b (er b + 1)) := ⟨h1, h2, fun c hc => by
  by_cases e : c = b
  · rw [e, va_up_self]; have := h.2.2 b hb; omega
  · rw [va_up_ne _ _ e]; have := h.2.2 c hc; omega⟩
theorem INV.begin (h : INV n tp tn false rw ln op bg cp cb cn cg er rc re be lg co fi bn oq ro) (hn : n < 512) (hl : ln ≠ 24) (hb : b < 24) (hf : lg b = false) {cp' : Nat} (hcp : cp' < 2 ^ 31) :
    INV (n + 1) tp tn false (va_up rw ln b) (ln + 1) true (bg + 1) cp' cb (va_up cn b 2048) (va_up cg b (G2 g0 pt bg 6)) (va_up er b (er b + 1)) (va_up rc b 0) (va_up re b 6) (va_up be b (bn + 1)) (va_up lg b true) (va_up co b 0) (va_up fi b 0) (bn + 1) (some b) ro
    ∧ OPEN (va_up rw ln b) (ln + 1) (some b) (va_up cn b 2048) (va_up cg b (G2 g0 pt bg 6)) (va_up fi b 0)
    ∧ insR (orB (va_up cn b 2048) (va_up cg b (G2 g0 pt bg 6))) rw b ln = va_up rw ln b
    ∧ (∀ i, i < ln → orB (va_up cn b 2048) (va_up cg b (G2 g0 pt bg 6)) (rw i) < 2 ^ 31) ∧ orB (va_up cn b 2048) (va_up cg b (G2 g0 pt bg 6)) b < 2 ^ 31 := by
  obtain ⟨hT, hN, hC, hL, -⟩ := h
  have hbg := hN.1
  have hbn := hN.2.1
  obtain ⟨hC', hor⟩ := hC.begin (b := b) (g0 := g0) (pt := pt) hb (by omega)
  have hne : ∀ t, t < ln → rw t ≠ b := fun t ht e => by
    have := (hL.1.2.2.2 b hb).mpr ⟨t, ht, e⟩
    rw [hf] at this
    exact absurd this (by decide)
  have hle : ∀ t, t < ln → orB (va_up cn b 2048) (va_up cg b (G2 g0 pt bg 6)) (rw t) ≤ bg := fun t ht => by
    rw [orB_ne (hne t ht)]
    exact hC.or_le (hL.1.2.1 t ht) (hL.2.1 t ht).1
  have hO : OPEN (va_up rw ln b) (ln + 1) (some b) (va_up cn b 2048) (va_up cg b (G2 g0 pt bg 6)) (va_up fi b 0) := by
    unfold OPEN
    rw [show ln + 1 - 1 = ln by omega, va_up_self, va_up_self, va_up_self, va_up_self]
    exact ⟨by omega, rfl, rfl, fun j h1 h2 => G2_hi (by omega) h2⟩
  refine ⟨⟨⟨hT.1, hT.2.1, hcp, hT.2.2.2⟩, hN.er_ hb (by omega) (by omega), hC', hL.push hl hb hf hC.be_le, fun _ => Or.inl ⟨rfl, hO⟩⟩, hO, insR_last (fun t ht => ?_), fun t ht => ?_, ?_⟩
  · rw [hor]; have := hle t ht; omega
  · have := hle t ht; omega
  · rw [hor]; omega
theorem INV.tornErase (h : INV n tp tn false rw ln op bg cp cb cn cg er rc re be lg co fi bn oq ro) (hb : b < 24) (hf : lg b = false) (hc : (cn b = 0 ∧ g0 = fun _ => 0) ∨ (cn b = 2048 ∧ g0 = cg b)) (hg : ∀ j, j < 2048 → g0 j < 256) {cp' d : Nat} (hcp : cp' < 2 ^ 31) :
    INV (n + 1) tp 0 true rw ln op bg cp' cb (va_up cn b 2048) (va_up cg b (fil g0 d)) (va_up er b (er b + 1)) rc re (if 0 < d then va_up be b 0 else be) lg co fi bn oq ro := by
  obtain ⟨hT, hN, hC, hL, -⟩ := h
  have hbg := hN.1
  have hbn := hN.2.1
  refine ⟨⟨by omega, hT.2.1, hcp, hT.2.2.2⟩, hN.er_ hb (by omega) (by omega), hC.tornErase hb hc hg, ?_, fun q => absurd q (by decide)⟩
  split
  · exact hL.be_ne hb hf
  · exact hL
theorem INV.tornBegin (h : INV n tp tn false rw ln op bg cp cb cn cg er rc re be lg co fi bn oq ro) (hb : b < 24) (hf : lg b = false) {cp' d : Nat} (hcp : cp' < 2 ^ 31) (hd : d < 6) :
    INV (n + 1) tp 0 true rw ln op (bg + 1) cp' cb (va_up cn b 2048) (va_up cg b (G2 g0 pt bg d)) (va_up er b (er b + 1)) rc re (va_up be b 0) lg co fi bn oq ro := by
  obtain ⟨hT, hN, hC, hL, -⟩ := h
  have hbg := hN.1
  have hbn := hN.2.1
  exact ⟨⟨by omega, hT.2.1, hcp, hT.2.2.2⟩, hN.er_ hb (by omega) (by omega), hC.tornBegin hb hd, hL.be_ne hb hf, fun q => absurd q (by decide)⟩
theorem INV.mount (h : INV n tp tn dn rw ln op bg cp cb cn cg er rc re be lg co fi bn oq ro) : INV n tp 0 false (moR cn cg rw 24) (moL cn cg 24) false bg cp cb cn cg er (moC cn cg rc 24) (moE cn cg re 24) be (mtL be lg 24) co fi bn none ro :=
  ⟨⟨by omega, h.1.2⟩, h.2.1, h.2.2.1, h.2.2.1.mount h.HQ, fun _ => Or.inr ⟨rfl, rfl⟩⟩
theorem INV.drop (h : INV n tp tn false rw ln op bg cp cb cn cg er rc re be lg co fi bn oq ro) {i : Nat} (hi : i < ln) : INV n tp tn false (dropR rw i (ln - 1)) (ln - 1) (op && decide (i ≠ ln - 1)) bg cp cb cn cg er rc re be (va_up lg (rw i) false) co fi bn (if oq = some (rw i) then none else oq) ro := by
  obtain ⟨hT, hN, hC, hL, hO⟩ := h
  refine ⟨hT, hN, hC, hL.drop hi, fun _ => ?_⟩
  rcases hO rfl with ⟨p1, p2, p3, p4, p5⟩ | ⟨p1, p2⟩
  · by_cases e : i = ln - 1
    · right
      rw [p3, e, if_pos rfl]
      simp
    · left
      have hne : rw (ln - 1) ≠ rw i := fun q => hL.1.inj i (ln - 1) (by omega) (by omega) q.symm
      have hd : dropR rw i (ln - 1) (ln - 1 - 1) = rw (ln - 1) := by
        unfold dropR
        rw [if_pos ⟨by omega, by omega⟩, show ln - 1 - 1 + 1 = ln - 1 by omega]
      rw [hd, p3, if_neg (fun q => hne (Option.some.inj q))]
      exact ⟨by simp [p1, e], by omega, rfl, p4, p5⟩
  · right
    rw [p1, p2]
    simp
end INVS

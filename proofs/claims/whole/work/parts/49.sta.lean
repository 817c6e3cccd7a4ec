/-! append, on both sides -/
section STA
/-- no open block, or one without room -/
def NRM (oq : Option Nat) (fi : Nat → Nat) (tn : Nat) : Prop := oq = none ∨ ∃ b, oq = some b ∧ b < 24 ∧ 2040 < fi b + 9 + tn
theorem mo_ap4 (l : Launch) (D : va_G) (cy : Nat → ClassId) (ad : Nat → Nat) (fl tn cp cb bn fo : Nat) (w : Bool) (tp we be co fi ro : Nat → Nat) (lg : Nat → Bool) (op : Option Nat) (kd mo k : Nat) (hkd1 : 1 ≤ kd) (hkd2 : kd ≤ 15) (hmo : mo < 2 ^ 31) (hk : k ≤ 45) (hkt : k ≤ tn) (htk : tn ≤ k + 1000) (HQ : ∀ b, b < 24 → fi b ≤ 2040 ∧ co b < 2 ^ 16) (hop : NRM op fi tn) (h24 : cntL lg 24 = 24) : mtI l y_Mo_append b_Mo_append 8 (some .int) RM D cy [.ref (ad 0), .int (nI kd), .int (nI mo), .int (nI k)] PM ad (mdC cy ad fl false tp tn w cp cb we be lg co fi bn op ro fo) (mdC cy ad 3 false tp 0 w cp cb we be lg co fi bn op ro fo) (nI 0) := by
  rcases hop with e | ⟨b, e, hb, hr⟩
  · subst e; exact c_Mo_append4n l D cy ad fl tn cp cb bn fo false w tp we be co fi ro lg none kd mo k hkd1 hkd2 hmo hk hkt htk h24
  · subst e; exact c_Mo_append4s l D cy ad fl tn cp cb bn fo false w tp we be co fi ro lg (some b) kd mo k hkd1 hkd2 hmo hk hkt htk b hb HQ hr h24
theorem mo_ap7 (l : Launch) (D : va_G) (cy : Nat → ClassId) (ad : Nat → Nat) (fl tn cp cb bn fo : Nat) (w : Bool) (tp we be co fi ro : Nat → Nat) (lg : Nat → Bool) (op : Option Nat) (kd mo k : Nat) (hkd1 : 1 ≤ kd) (hkd2 : kd ≤ 15) (hmo : mo < 2 ^ 31) (hk : k ≤ 45) (hkt : k ≤ tn) (htk : tn ≤ k + 1000) (HQ : ∀ b, b < 24 → fi b ≤ 2040 ∧ co b < 2 ^ 16) (hop : NRM op fi tn) (h24 : cntL lg 24 ≠ 24) (cp2 bn2 : Nat) (w2 : Bool) (we2 be2 co2 fi2 : Nat → Nat) (lg2 : Nat → Bool) (dn2 : Bool) (op2 : Option Nat) (hT : mtI l y_Mo_take b_Mo_take 3 (some .boolean) { frames := 1, cells := 0, slots := 0, locals := 21 } D cy [.ref (ad 0)] PM ad (mdC cy ad 0 false tp 0 w cp cb we be lg co fi bn op ro fo) (mdC cy ad 0 dn2 tp 0 w2 cp2 cb we2 be2 lg2 co2 fi2 bn2 op2 ro fo) (bI false)) : mtI l y_Mo_append b_Mo_append 8 (some .int) RM D cy [.ref (ad 0), .int (nI kd), .int (nI mo), .int (nI k)] PM ad (mdC cy ad fl false tp tn w cp cb we be lg co fi bn op ro fo) (mdC cy ad 2 dn2 tp 0 w2 cp2 cb we2 be2 lg2 co2 fi2 bn2 op2 ro fo) (nI 0) := by
  rcases hop with e | ⟨b, e, hb, hr⟩
  · subst e; exact c_Mo_append7n l D cy ad fl tn cp cb bn fo false w tp we be co fi ro lg none kd mo k hkd1 hkd2 hmo hk hkt htk h24 cp2 bn2 w2 we2 be2 co2 fi2 lg2 dn2 op2 hT
  · subst e; exact c_Mo_append7s l D cy ad fl tn cp cb bn fo false w tp we be co fi ro lg (some b) kd mo k hkd1 hkd2 hmo hk hkt htk b hb HQ hr h24 cp2 bn2 w2 we2 be2 co2 fi2 lg2 dn2 op2 hT
theorem mo_ap8 (l : Launch) (D : va_G) (cy : Nat → ClassId) (ad : Nat → Nat) (fl tn cp cb bn fo : Nat) (w : Bool) (tp we be co fi ro : Nat → Nat) (lg : Nat → Bool) (op : Option Nat) (kd mo k : Nat) (hkd1 : 1 ≤ kd) (hkd2 : kd ≤ 15) (hmo : mo < 2 ^ 31) (hk : k ≤ 45) (hkt : k ≤ tn) (htk : tn ≤ k + 1000) (HQ : ∀ b, b < 24 → fi b ≤ 2040 ∧ co b < 2 ^ 16) (hop : NRM op fi tn) (h24 : cntL lg 24 ≠ 24) (cp2 bn2 : Nat) (w2 : Bool) (we2 be2 co2 fi2 : Nat → Nat) (lg2 : Nat → Bool) (b2 : Nat) (hT : mtI l y_Mo_take b_Mo_take 3 (some .boolean) { frames := 1, cells := 0, slots := 0, locals := 21 } D cy [.ref (ad 0)] PM ad (mdC cy ad 0 false tp 0 w cp cb we be lg co fi bn op ro fo) (mdC cy ad 0 false tp 0 w2 cp2 cb we2 be2 lg2 co2 fi2 bn2 (some b2) ro fo) (bI true)) (hb2 : b2 < 24) (HQ2 : ∀ b, b < 24 → fi2 b ≤ 2040 ∧ co2 b < 2 ^ 16) (hroom2 : fi2 b2 + 9 + tn ≤ 2040) (hcp : cp2 < 2 ^ 31) (hcb : cb < 2 ^ 31) (hdn : cutF w2 cp2 = true) : mtI l y_Mo_append b_Mo_append 8 (some .int) RM D cy [.ref (ad 0), .int (nI kd), .int (nI mo), .int (nI k)] PM ad (mdC cy ad fl false tp tn w cp cb we be lg co fi bn op ro fo) (mdC cy ad 2 true tp 0 (cutW w2 cp2) (cutP w2 cp2) cb we2 be2 lg2 co2 fi2 bn2 (some b2) ro fo) (nI 0) := by
  rcases hop with e | ⟨b, e, hb, hr⟩
  · subst e; exact c_Mo_append8n l D cy ad fl tn cp cb bn fo false w tp we be co fi ro lg none kd mo k hkd1 hkd2 hmo hk hkt htk h24 cp2 bn2 w2 we2 be2 co2 fi2 lg2 b2 hT hb2 HQ2 hroom2 hcp hcb hdn
  · subst e; exact c_Mo_append8s l D cy ad fl tn cp cb bn fo false w tp we be co fi ro lg (some b) kd mo k hkd1 hkd2 hmo hk hkt htk b hb HQ hr h24 cp2 bn2 w2 we2 be2 co2 fi2 lg2 b2 hT hb2 HQ2 hroom2 hcp hcb hdn
theorem mo_ap9 (l : Launch) (D : va_G) (cy : Nat → ClassId) (ad : Nat → Nat) (fl tn cp cb bn fo : Nat) (w : Bool) (tp we be co fi ro : Nat → Nat) (lg : Nat → Bool) (op : Option Nat) (kd mo k : Nat) (hkd1 : 1 ≤ kd) (hkd2 : kd ≤ 15) (hmo : mo < 2 ^ 31) (hk : k ≤ 45) (hkt : k ≤ tn) (htk : tn ≤ k + 1000) (HQ : ∀ b, b < 24 → fi b ≤ 2040 ∧ co b < 2 ^ 16) (hop : NRM op fi tn) (h24 : cntL lg 24 ≠ 24) (cp2 bn2 : Nat) (w2 : Bool) (we2 be2 co2 fi2 : Nat → Nat) (lg2 : Nat → Bool) (b2 : Nat) (hT : mtI l y_Mo_take b_Mo_take 3 (some .boolean) { frames := 1, cells := 0, slots := 0, locals := 21 } D cy [.ref (ad 0)] PM ad (mdC cy ad 0 false tp 0 w cp cb we be lg co fi bn op ro fo) (mdC cy ad 0 false tp 0 w2 cp2 cb we2 be2 lg2 co2 fi2 bn2 (some b2) ro fo) (bI true)) (hb2 : b2 < 24) (HQ2 : ∀ b, b < 24 → fi2 b ≤ 2040 ∧ co2 b < 2 ^ 16) (hroom2 : fi2 b2 + 9 + tn ≤ 2040) (hcp : cp2 < 2 ^ 31) (hcb : cb < 2 ^ 31) (a : Nat) (ha : 2040 * b2 + fi2 b2 = a) (hdn : cutF w2 cp2 = false) : mtI l y_Mo_append b_Mo_append 8 (some .int) RM D cy [.ref (ad 0), .int (nI kd), .int (nI mo), .int (nI k)] PM ad (mdC cy ad fl false tp tn w cp cb we be lg co fi bn op ro fo) (mdC cy ad 0 false tp 0 (cutW w2 cp2) (cutP w2 cp2) cb we2 be2 lg2 (va_up co2 b2 (co2 b2 + 1)) (va_up fi2 b2 (fi2 b2 + (9 + tn))) bn2 (some b2) (mRB ro a kd mo k tn tp) fo) (nI (co2 b2 + 1)) := by
  rcases hop with e | ⟨b, e, hb, hr⟩
  · subst e; exact c_Mo_append9n l D cy ad fl tn cp cb bn fo false w tp we be co fi ro lg none kd mo k hkd1 hkd2 hmo hk hkt htk h24 cp2 bn2 w2 we2 be2 co2 fi2 lg2 b2 hT hb2 HQ2 hroom2 hcp hcb a ha hdn
  · subst e; exact c_Mo_append9s l D cy ad fl tn cp cb bn fo false w tp we be co fi ro lg (some b) kd mo k hkd1 hkd2 hmo hk hkt htk b hb HQ hr h24 cp2 bn2 w2 we2 be2 co2 fi2 lg2 b2 hT hb2 HQ2 hroom2 hcp hcb a ha hdn
variable {l : Launch} {D : va_G} {cy : Nat → ClassId} {n k0 : Nat} {ct mt : (Nat → Nat) → Nat → va_E}
variable {cn : Nat → Nat} {cg : Nat → Nat → Nat} {be co fi ro rw rc re er tp pt : Nat → Nat} {bg bn ln tn cp cb pn fo : Nat} {lg : Nat → Bool} {op w : Bool} {oq : Option Nat}
theorem st_nr (hl0 : l.stackTraces = false) (hn : n < 512) (hI : INV n tp tn false rw ln op bg cp cb cn cg er rc re be lg co fi bn oq ro) (kd mo k : Nat) (hkd1 : 1 ≤ kd) (hkd2 : kd ≤ 15) (hmo : mo < 2 ^ 31) (hk : k ≤ 45) (hkt : k ≤ tn) (htk : tn ≤ k + 1000) (hrm : (op && (decide (0 < ln) && decide (re (rw (ln - 1)) + (9 + tn) ≤ 2046))) = false) (hop : NRM oq fi tn) : STP l D cy n y_Lw_append b_Lw_append 6 h_Lw_append [.int (nI kd), .int (nI mo), .int (nI k)] y_Mo_append b_Mo_append 8 (fun ad => tlC cy ad tp tn false rw ln op bg w cp cb pt pn cn cg er rc re) (fun am => mdC cy am k0 false tp tn w cp cb er be lg co fi bn oq ro fo) := by
  have hI' := hI.mono (Nat.le_succ n)
  have hcp := hI.1.2.2.1
  have hcb := hI.1.2.2.2
  have htn := hI.1.1
  have hbg : bg < 2 ^ 30 := by have := hI.2.1.1; omega
  have hbn : bn < 2 ^ 30 := by have := hI.2.1.2.1; omega
  by_cases h24 : ln = 24
  · exact ⟨3, 0, _, _, _, by omega, fun q => absurd q (by omega), REL.mk (hI'.tape ⟨Nat.zero_le _, hI.1.2⟩), fun ad oa x sa base => h_append_IB l D cy ad _ _ _ tl_0 oa x sa base _ _ _ 0 (c_Tl_append6 l D cy ad sa base hl0 tp rw pt cn er rc re cg tn ln bg cp cb pn false op w kd mo k hkd1 hkd2 hmo hk hkt htk hI.HL hI.HR hI.HC hI.HG hI.HQ hrm h24), fun am => mo_ap4 l D cy am k0 tn cp cb bn fo w tp er be co fi ro lg oq kd mo k hkd1 hkd2 hmo hk hkt htk hI.HM hop (by rw [hI.hln]; exact h24)⟩
  obtain ⟨b, hle, hb, hf⟩ := hI.2.2.2.1.1.free er h24
  have hleC : lea er (heldB rw ln) 24 = some b := by rw [hI.2.2.2.1.1.leaE]; exact hle
  have h24m : cntL lg 24 ≠ 24 := by rw [hI.hln]; exact h24
  obtain ⟨g0, hcn, HG0⟩ : ∃ g0 : Nat → Nat, ((cn b = 0 ∧ g0 = fun _ => 0) ∨ (cn b = 2048 ∧ g0 = cg b)) ∧ ∀ j, j < 2048 → g0 j < 256 := by
    rcases (hI.2.2.1.1 b hb).1 with q | q
    · exact ⟨fun _ => 0, Or.inl ⟨q, rfl⟩, fun j _ => by show 0 < 256; omega⟩
    · exact ⟨cg b, Or.inr ⟨q, rfl⟩, fun j hj => hI.HG b hb j (by rw [q]; exact hj)⟩
  cases hF : cutF w cp with
  | true =>
    have hX := fun (ad : Nat → Nat) (sa : Nat → Nat) (base : Nat) => c_Tl_append9 l D cy ad sa base hl0 tp rw pt cn er rc re cg tn ln bg cp cb pn false op w kd mo k hkd1 hkd2 hmo hk hkt htk hI.HL hI.HR hI.HC hI.HG hI.HQ hrm h24 rw pt (va_up cn b 2048) (va_up er b (er b + 1)) rc re (va_up cg b (fil g0 (cutN w cp cb 2048))) ln bg (cutP w cp) cb pn op (cutW w cp) (c_Lg_takeBlock0 l D cy ad b g0 tp rw pt cn er rc re cg tn ln bg cp cb pn false op w hI.HL hI.HR hI.HC hI.HG hcp hcb (hI.HE hn) hbg hleC hcn HG0 ((cut_F (by omega)).mpr hF))
    rw [cutN_F hF] at hX
    exact ⟨2, 0, _, _, _, by omega, fun q => absurd q (by omega), REL.mk (hI.tornErase hb hf hcn HG0 (cutP_lt hcp)), fun ad oa x sa base => h_append_IS l D cy ad _ _ _ tl_0 oa x sa base _ _ _ 0 (hX ad sa base), fun am => mo_ap7 l D cy am k0 tn cp cb bn fo w tp er be co fi ro lg oq kd mo k hkd1 hkd2 hmo hk hkt htk hI.HM hop h24m _ _ _ _ _ _ _ _ _ _ (c_Mo_take0 l D cy am 0 0 cp cb bn fo false w tp er be co fi ro lg oq hcp hcb (hI.HE hn) hbn b hle hF)⟩
  | false =>
    cases hF2 : cutF (cutW w cp) (cutP w cp) with
    | true =>
      have hX := fun (ad : Nat → Nat) (sa : Nat → Nat) (base : Nat) => c_Tl_append9 l D cy ad sa base hl0 tp rw pt cn er rc re cg tn ln bg cp cb pn false op w kd mo k hkd1 hkd2 hmo hk hkt htk hI.HL hI.HR hI.HC hI.HG hI.HQ hrm h24 rw (PB pt bg) (va_up cn b 2048) (va_up er b (er b + 1)) rc re (va_up cg b (G2 g0 pt bg (cutN (cutW w cp) (cutP w cp) cb 6))) ln (bg + 1) (cutP (cutW w cp) (cutP w cp)) cb 6 op (cutW (cutW w cp) (cutP w cp)) (c_Lg_takeBlock1 l D cy ad b g0 tp rw pt cn er rc re cg tn ln bg cp cb pn false op w hI.HL hI.HR hI.HC hI.HG hcp hcb (hI.HE hn) hbg hleC hcn HG0 (cutN_T hF) ((cut_F (by omega)).mpr hF2))
      exact ⟨2, 0, _, _, _, by omega, fun q => absurd q (by omega), REL.mk (hI.tornBegin hb hf (cutP_lt (cutP_lt hcp)) (cut_lt (by omega) ((cut_F (by omega)).mpr hF2))), fun ad oa x sa base => h_append_IS l D cy ad _ _ _ tl_0 oa x sa base _ _ _ 0 (hX ad sa base), fun am => mo_ap7 l D cy am k0 tn cp cb bn fo w tp er be co fi ro lg oq kd mo k hkd1 hkd2 hmo hk hkt htk hI.HM hop h24m _ _ _ _ _ _ _ _ _ _ (c_Mo_take1 l D cy am 0 0 cp cb bn fo false w tp er be co fi ro lg oq hcp hcb (hI.HE hn) hbn b hle hF hF2)⟩
    | false =>
      obtain ⟨hB, hO, hins, HOr, hob⟩ := hI.begin (g0 := g0) (pt := pt) hn h24 hb hf (cutP_lt (w := cutW w cp) (cutP_lt (w := w) hcp))
      have hT := fun (ad : Nat → Nat) => c_Lg_takeBlock2 l D cy ad b g0 tp rw pt cn er rc re cg tn ln bg cp cb pn false op w hI.HL hI.HR hI.HC hI.HG hcp hcb (hI.HE hn) hbg hleC hcn HG0 (cutN_T hF) (cutN_T hF2) (by have := hI.HL; omega) HOr hob
      rw [hins] at hT
      have e : va_up rw ln b (ln + 1 - 1) = b := by rw [show ln + 1 - 1 = ln by omega, va_up_self]
      have hroom : va_up re b 6 (va_up rw ln b (ln + 1 - 1)) + (9 + tn) ≤ 2046 := by rw [e, va_up_self]; omega
      have hcn2 : 2046 ≤ va_up cn b 2048 (va_up rw ln b (ln + 1 - 1)) := by rw [e, va_up_self]; omega
      have h255 : ∀ j, j < 9 + tn → va_up cg b (G2 g0 pt bg 6) (va_up rw ln b (ln + 1 - 1)) (va_up re b 6 (va_up rw ln b (ln + 1 - 1)) + j) = 255 := fun j hj => by rw [e, va_up_self, va_up_self]; exact G2_hi (by omega) (by omega)
      have hroomM : va_up fi b 0 b + 9 + tn ≤ 2040 := by rw [va_up_self]; omega
      cases hF3 : cutF (cutW (cutW w cp) (cutP w cp)) (cutP (cutW w cp) (cutP w cp)) with
      | true =>
        have hX := fun (ad : Nat → Nat) (sa : Nat → Nat) (base : Nat) => c_Tl_append10 l D cy ad sa base hl0 tp rw pt cn er rc re cg tn ln bg cp cb pn false op w kd mo k hkd1 hkd2 hmo hk hkt htk hI.HL hI.HR hI.HC hI.HG hI.HQ hrm h24 (va_up rw ln b) (PB pt bg) (va_up cn b 2048) (va_up er b (er b + 1)) (va_up rc b 0) (va_up re b 6) (va_up cg b (G2 g0 pt bg 6)) (ln + 1) (bg + 1) (cutP (cutW w cp) (cutP w cp)) cb 6 true (cutW (cutW w cp) (cutP w cp)) (hT ad) hB.HL hB.HR hB.HC hB.HG hB.HQ hB.1.2.2.1 hcb (by omega) rfl hroom hcn2 h255 (fun j _ => hI.1.2.1 j) ((cut_F (by omega)).mpr hF3)
        rw [e] at hX
        exact ⟨2, 0, _, _, _, by omega, fun q => absurd q (by omega), REL.mk (hB.torn hO (by omega) hkt (by omega) (by omega) e hroomM (cutP_lt hB.1.2.2.1) (cut_lt (by omega) ((cut_F (by omega)).mpr hF3))), fun ad oa x sa base => h_append_IS l D cy ad _ _ _ tl_0 oa x sa base _ _ _ 0 (hX ad sa base), fun am => mo_ap8 l D cy am k0 tn cp cb bn fo w tp er be co fi ro lg oq kd mo k hkd1 hkd2 hmo hk hkt htk hI.HM hop h24m _ _ _ _ _ _ _ _ b (c_Mo_take2 l D cy am 0 0 cp cb bn fo false w tp er be co fi ro lg oq hcp hcb (hI.HE hn) hbn b hle hF hF2) hb hB.HM hroomM hB.1.2.2.1 hcb hF3⟩
      | false =>
        have hX := fun (ad : Nat → Nat) => c_Tl_append11 l D cy ad tp rw pt cn er rc re cg tn ln bg cp cb pn false op w kd mo k hkd1 hkd2 hmo hk hkt htk hI.HL hI.HR hI.HC hI.HG hI.HQ hrm h24 (va_up rw ln b) (PB pt bg) (va_up cn b 2048) (va_up er b (er b + 1)) (va_up rc b 0) (va_up re b 6) (va_up cg b (G2 g0 pt bg 6)) (ln + 1) (bg + 1) (cutP (cutW w cp) (cutP w cp)) cb 6 true (cutW (cutW w cp) (cutP w cp)) (hT ad) hB.HL hB.HR hB.HC hB.HG hB.HQ hB.1.2.2.1 hcb (by omega) rfl hroom hcn2 h255 (fun j _ => hI.1.2.1 j) (cutN_T hF3)
        rw [e] at hX
        exact ⟨0, _, _, _, _, by omega, fun _ => by rw [va_up_self, va_up_self], REL.mk (hB.rec hO rfl (by omega) hkt (by omega) (by omega) e hroomM (cutP_lt hB.1.2.2.1)), fun ad oa x sa base => h_append_ok l D cy ad _ _ _ tl_0 oa x sa base _ _ _ _ (hX ad), fun am => mo_ap9 l D cy am k0 tn cp cb bn fo w tp er be co fi ro lg oq kd mo k hkd1 hkd2 hmo hk hkt htk hI.HM hop h24m _ _ _ _ _ _ _ _ b (c_Mo_take2 l D cy am 0 0 cp cb bn fo false w tp er be co fi ro lg oq hcp hcb (hI.HE hn) hbn b hle hF hF2) hb hB.HM hroomM hB.1.2.2.1 hcb _ rfl hF3⟩
theorem st_append (hl0 : l.stackTraces = false) (hn : n < 512) (h : REL cy n ct mt k0) (x1 x2 x3 : Int32) : STP l D cy n y_Lw_append b_Lw_append 6 h_Lw_append [.int x1, .int x2, .int x3] y_Mo_append b_Mo_append 8 ct mt := by
  obtain ⟨tp, rw, pt, cn, er, rc, re, be, co, fi, ro, cg, tn, ln, bg, cp, cb, pn, bn, fo, dn, op, w, lg, oq, hI, rfl, rfl⟩ := h
  have hI' := hI.mono (Nat.le_succ n)
  by_cases q1 : x1 < nI 1 ∨ nI 15 < x1
  · exact ⟨1, 0, _, _, _, by omega, fun q => absurd q (by omega), REL.mk hI', fun ad oa x sa base => h_append_IA l D cy ad _ _ _ tl_0 oa x sa base x1 x2 x3 0 (c_Tl_append1 l D cy ad sa base hl0 tp rw pt cn er rc re cg tn ln bg cp cb pn dn op w x1 x2 x3 q1), fun am => c_Mo_append1 l D cy am k0 tn cp cb bn fo dn w tp er be co fi ro lg oq x1 x2 x3 (q1.elim Or.inl (fun z => Or.inr (Or.inl z)))⟩
  have a1 := fun z => q1 (Or.inl z)
  have a2 := fun z => q1 (Or.inr z)
  by_cases q2 : x2 < 0
  · exact ⟨1, 0, _, _, _, by omega, fun q => absurd q (by omega), REL.mk hI', fun ad oa x sa base => h_append_IA l D cy ad _ _ _ tl_0 oa x sa base x1 x2 x3 0 (c_Tl_append2 l D cy ad sa base hl0 tp rw pt cn er rc re cg tn ln bg cp cb pn dn op w x1 x2 x3 a1 a2 q2), fun am => c_Mo_append1 l D cy am k0 tn cp cb bn fo dn w tp er be co fi ro lg oq x1 x2 x3 (Or.inr (Or.inr (Or.inl q2)))⟩
  by_cases q3 : x3 < nI 0 ∨ nI 45 < x3
  · exact ⟨1, 0, _, _, _, by omega, fun q => absurd q (by omega), REL.mk hI', fun ad oa x sa base => h_append_IA l D cy ad _ _ _ tl_0 oa x sa base x1 x2 x3 0 (c_Tl_append3 l D cy ad sa base hl0 tp rw pt cn er rc re cg tn ln bg cp cb pn dn op w x1 x2 x3 a1 a2 q2 q3), fun am => c_Mo_append1 l D cy am k0 tn cp cb bn fo dn w tp er be co fi ro lg oq x1 x2 x3 (Or.inr (Or.inr (Or.inr (q3.elim (fun z => Or.inl (by rw [← nI_0]; exact z)) Or.inr))))⟩
  have a3 := fun z => q3 (Or.inl z)
  have a4 := fun z => q3 (Or.inr z)
  obtain ⟨kd, e1, hkd1, hkd2⟩ := i32_in (by omega) (by omega) a1 a2
  obtain ⟨mo, hmo, e2⟩ := nI_of q2
  obtain ⟨k, e3, -, hk⟩ := i32_in (by omega) (by omega) a3 a4
  subst e1 e2 e3
  clear q1 a1 a2 q2 q3 a3 a4
  have htn := hI.1.1
  by_cases q4 : tn < k ∨ k + 1000 < tn
  · exact ⟨1, 0, _, _, _, by omega, fun q => absurd q (by omega), REL.mk hI', fun ad oa x sa base => h_append_IA l D cy ad _ _ _ tl_0 oa x sa base _ _ _ 0 (c_Tl_append4 l D cy ad sa base hl0 tp rw pt cn er rc re cg tn ln bg cp cb pn dn op w kd mo k hkd1 hkd2 hmo hk htn q4), fun am => c_Mo_append2 l D cy am k0 tn cp cb bn fo dn w tp er be co fi ro lg oq kd mo k hkd1 hkd2 hmo hk htn q4⟩
  have hkt : k ≤ tn := by omega
  have htk : tn ≤ k + 1000 := by omega
  clear q4
  cases dn with
  | true => exact ⟨2, 0, _, _, _, by omega, fun q => absurd q (by omega), REL.mk hI', fun ad oa x sa base => h_append_IS l D cy ad _ _ _ tl_0 oa x sa base _ _ _ 0 (c_Tl_append5 l D cy ad sa base hl0 tp rw pt cn er rc re cg tn ln bg cp cb pn true op w kd mo k hkd1 hkd2 hmo hk hkt htk), fun am => c_Mo_append3 l D cy am k0 tn cp cb bn fo true w tp er be co fi ro lg oq kd mo k hkd1 hkd2 hmo hk hkt htk⟩
  | false =>
    have hcp := hI.1.2.2.1
    have hcb := hI.1.2.2.2
    rcases hI.2.2.2.2 rfl with ⟨p1, p2, p3, p4, p5⟩ | ⟨p1, p2⟩
    · obtain ⟨s1, s2, s3, s4⟩ := hI.2.2.2.1.open_ p2
      subst p1 p3
      by_cases hr : fi (rw (ln - 1)) + 9 + tn ≤ 2040
      · have hroom : re (rw (ln - 1)) + (9 + tn) ≤ 2046 := by rw [s4]; omega
        have hrm : (true && (decide (0 < ln) && decide (re (rw (ln - 1)) + (9 + tn) ≤ 2046))) = true := by simp [p2, hroom]
        have h255 : ∀ j, j < 9 + tn → cg (rw (ln - 1)) (re (rw (ln - 1)) + j) = 255 := fun j hj => p5 _ (by rw [s4]; omega) (by omega)
        have hO : OPEN rw ln (some (rw (ln - 1))) cn cg fi := ⟨p2, rfl, p4, p5⟩
        cases hF : cutF w cp with
        | true =>
          exact ⟨2, 0, _, _, _, by omega, fun q => absurd q (by omega), REL.mk (hI'.torn hO (by omega) hkt (by omega) (by omega) rfl hr (cutP_lt hcp) (cut_lt (by omega) ((cut_F (by omega)).mpr hF))), fun ad oa x sa base => h_append_IS l D cy ad _ _ _ tl_0 oa x sa base _ _ _ 0 (c_Tl_append7 l D cy ad sa base hl0 tp rw pt cn er rc re cg tn ln bg cp cb pn false true w kd mo k hkd1 hkd2 hmo hk hkt htk hI.HL hI.HR hI.HC hI.HG hI.HQ hrm hcp hcb p2 rfl hroom (by omega) h255 (fun j _ => hI.1.2.1 j) ((cut_F (by omega)).mpr hF)), fun am => c_Mo_append5 l D cy am k0 tn cp cb bn fo false w tp er be co fi ro lg none kd mo k hkd1 hkd2 hmo hk hkt htk (rw (ln - 1)) s1 hI.HM hr hcp hcb hF⟩
        | false =>
          exact ⟨0, _, _, _, _, by omega, fun _ => by rw [s3], REL.mk (hI'.rec hO rfl (by omega) hkt (by omega) (by omega) rfl hr (cutP_lt hcp)), fun ad oa x sa base => h_append_ok l D cy ad _ _ _ tl_0 oa x sa base _ _ _ _ (c_Tl_append8 l D cy ad tp rw pt cn er rc re cg tn ln bg cp cb pn false true w kd mo k hkd1 hkd2 hmo hk hkt htk hI.HL hI.HR hI.HC hI.HG hI.HQ hrm hcp hcb p2 rfl hroom (by omega) h255 (fun j _ => hI.1.2.1 j) (cutN_T hF)), fun am => c_Mo_append6 l D cy am k0 tn cp cb bn fo false w tp er be co fi ro lg none kd mo k hkd1 hkd2 hmo hk hkt htk (rw (ln - 1)) s1 hI.HM hr hcp hcb _ rfl hF⟩
      · have hroom : ¬ re (rw (ln - 1)) + (9 + tn) ≤ 2046 := by rw [s4]; omega
        exact st_nr hl0 hn hI kd mo k hkd1 hkd2 hmo hk hkt htk (by simp [hroom]) (Or.inr ⟨_, rfl, s1, by omega⟩)
    · subst p1
      exact st_nr hl0 hn hI kd mo k hkd1 hkd2 hmo hk hkt htk (by simp) (Or.inl p2)
end STA

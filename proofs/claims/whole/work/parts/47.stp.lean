/-! one call of the script, on both sides -/
section STP
def REL (cy : Nat → ClassId) (n : Nat) (ct mt : (Nat → Nat) → Nat → va_E) (k : Nat) : Prop :=
  ∃ (tp rw pt cn er rc re be co fi ro : Nat → Nat) (cg : Nat → Nat → Nat) (tn ln bg cp cb pn bn fo : Nat) (dn op w : Bool) (lg : Nat → Bool) (oq : Option Nat),
    INV n tp tn dn rw ln op bg cp cb cn cg er rc re be lg co fi bn oq ro ∧ ct = (fun ad => tlC cy ad tp tn dn rw ln op bg w cp cb pt pn cn cg er rc re) ∧ mt = (fun am => mdC cy am k dn tp tn w cp cb er be lg co fi bn oq ro fo)
theorem REL.mk {cy : Nat → ClassId} {n : Nat} {k tn ln bg cp cb pn bn fo : Nat} {tp rw pt cn er rc re be co fi ro : Nat → Nat} {cg : Nat → Nat → Nat} {dn op w : Bool} {lg : Nat → Bool} {oq : Option Nat} (h : INV n tp tn dn rw ln op bg cp cb cn cg er rc re be lg co fi bn oq ro) :
    REL cy n (fun ad => tlC cy ad tp tn dn rw ln op bg w cp cb pt pn cn cg er rc re) (fun am => mdC cy am k dn tp tn w cp cb er be lg co fi bn oq ro fo) k :=
  ⟨tp, rw, pt, cn, er, rc, re, be, co, fi, ro, cg, tn, ln, bg, cp, cb, pn, bn, fo, dn, op, w, lg, oq, h, rfl, rfl⟩
/-- a call by a helper of the law and the model's, an int each -/
def STP (l : Launch) (D : va_G) (cy : Nat → ClassId) (n : Nat) (y : MethodName) (cc : ByteArray) (maxL : Nat) (hh : List (Nat × Nat × Nat × Nat)) (xs : List Value) (ym : MethodName) (bm : ByteArray) (maxM : Nat) (ct mt : (Nat → Nat) → Nat → va_E) : Prop :=
  ∃ (k : Nat) (o : Int64) (r : Int32) (ct' mt' : (Nat → Nat) → Nat → va_E), k ≤ 3 ∧ (k = 0 → o = r.toInt64) ∧ REL cy (n + 1) ct' mt' k
    ∧ (∀ (ad : Nat → Nat) (oa : Nat) (x : Int64) (sa : Nat → Nat) (base : Nat), mtH l y cc maxL hh D cy (.ref (ad 0) :: (xs ++ [.ref oa])) ad (ct ad) ct' oa x sa base k o)
    ∧ ∀ am : Nat → Nat, mtI l ym bm maxM (some .int) RM D cy (.ref (am 0) :: xs) PM am (mt am) (mt' am) r
def STJ (l : Launch) (D : va_G) (cy : Nat → ClassId) (n : Nat) (y : MethodName) (cc : ByteArray) (maxL : Nat) (hh : List (Nat × Nat × Nat × Nat)) (xs : List Value) (ym : MethodName) (bm : ByteArray) (maxM : Nat) (ct mt : (Nat → Nat) → Nat → va_E) : Prop :=
  ∃ (k : Nat) (o : Int64) (r : Int64) (ct' mt' : (Nat → Nat) → Nat → va_E), k ≤ 3 ∧ (k = 0 → o = r) ∧ REL cy (n + 1) ct' mt' k
    ∧ (∀ (ad : Nat → Nat) (oa : Nat) (x : Int64) (sa : Nat → Nat) (base : Nat), mtH l y cc maxL hh D cy (.ref (ad 0) :: (xs ++ [.ref oa])) ad (ct ad) ct' oa x sa base k o)
    ∧ ∀ am : Nat → Nat, mtJ l ym bm maxM (some .long) RM D cy (.ref (am 0) :: xs) PM am (mt am) (mt' am) r
theorem i32_in {x : Int32} {a b : Nat} (hb : b < 2 ^ 31) (ha : a < 2 ^ 31) (h1 : ¬ x < nI a) (h2 : ¬ nI b < x) : ∃ v, x = nI v ∧ a ≤ v ∧ v ≤ b := by
  have h0 : ¬ x < 0 := fun q => h1 (by
    rw [Int32.lt_iff_toInt_lt] at q ⊢
    rw [nI_toInt ha]
    have : (0 : Int32).toInt = 0 := rfl
    omega)
  obtain ⟨j, hj, rfl⟩ := nI_of h0
  rw [nI_ltI hj ha] at h1
  rw [nI_ltI hb hj] at h2
  exact ⟨j, rfl, by omega, by omega⟩
theorem up4_256 {g : Nat → Nat} {k : Nat} {v : Int32} (h : ∀ j, g j < 256) : ∀ j, up4 g k v j < 256 := fun j => up4_lt (n := j + 1) (fun j _ _ => h j) j (by omega)
theorem fd5_256 {g : Nat → Nat} {k : Nat} {a b c d e : Int32} (h : ∀ j, g j < 256) : ∀ j, fd5 g k a b c d e j < 256 := up4_256 (up4_256 (up4_256 (up4_256 (up4_256 h))))
variable {l : Launch} {D : va_G} {cy : Nat → ClassId} {n k0 : Nat} {ct mt : (Nat → Nat) → Nat → va_E}
theorem st_feed (hl0 : l.stackTraces = false) (h : REL cy n ct mt k0) (x1 x2 x3 x4 x5 : Int32) : STP l D cy n y_Lw_feed b_Lw_feed 8 h_Lw_feed [.int x1, .int x2, .int x3, .int x4, .int x5] y_Mo_feed b_Mo_feed 8 ct mt := by
  obtain ⟨tp, rw, pt, cn, er, rc, re, be, co, fi, ro, cg, tn, ln, bg, cp, cb, pn, bn, fo, dn, op, w, lg, oq, hI, rfl, rfl⟩ := h
  have hI' := hI.mono (Nat.le_succ n)
  cases dn with
  | true => exact ⟨1, 0, _, _, _, by omega, fun q => absurd q (by omega), REL.mk hI', fun ad oa x sa base => h_feed_IS l D cy ad _ _ _ tl_0 oa x sa base x1 x2 x3 x4 x5 0 (c_Tl_feed1 l D cy ad sa base hl0 tp rw pt cn er rc re cg tn ln bg cp cb pn true op w x1 x2 x3 x4 x5), fun am => c_Mo_feed1 l D cy am k0 tn cp cb bn fo true w tp er be co fi ro lg oq x1 x2 x3 x4 x5⟩
  | false =>
    by_cases q : tn + 20 ≤ 1060
    · exact ⟨0, _, _, _, _, by omega, fun _ => rfl, REL.mk (hI'.tape ⟨q, fd5_256 hI.1.2.1, hI.1.2.2⟩), fun ad oa x sa base => h_feed_ok l D cy ad _ _ _ tl_0 oa x sa base x1 x2 x3 x4 x5 _ (c_Tl_feed0 l D cy ad tp rw pt cn er rc re cg tn ln bg cp cb pn false op w x1 x2 x3 x4 x5 q), fun am => c_Mo_feed0 l D cy am k0 tn cp cb bn fo false w tp er be co fi ro lg oq x1 x2 x3 x4 x5 q⟩
    · exact ⟨2, 0, _, _, _, by omega, fun q => absurd q (by omega), REL.mk hI', fun ad oa x sa base => h_feed_IB l D cy ad _ _ _ tl_0 oa x sa base x1 x2 x3 x4 x5 0 (c_Tl_feed2 l D cy ad sa base hl0 tp rw pt cn er rc re cg tn ln bg cp cb pn false op w x1 x2 x3 x4 x5 (by omega) hI.1.1), fun am => c_Mo_feed2 l D cy am k0 tn cp cb bn fo false w tp er be co fi ro lg oq x1 x2 x3 x4 x5 (by omega) hI.1.1⟩
theorem st_fill (hl0 : l.stackTraces = false) (h : REL cy n ct mt k0) (x1 x2 : Int32) : STP l D cy n y_Lw_fill b_Lw_fill 5 h_Lw_fill [.int x1, .int x2] y_Mo_fill b_Mo_fill 4 ct mt := by
  obtain ⟨tp, rw, pt, cn, er, rc, re, be, co, fi, ro, cg, tn, ln, bg, cp, cb, pn, bn, fo, dn, op, w, lg, oq, hI, rfl, rfl⟩ := h
  have hI' := hI.mono (Nat.le_succ n)
  by_cases q1 : x1 < nI 0 ∨ nI 255 < x1
  · exact ⟨1, 0, _, _, _, by omega, fun q => absurd q (by omega), REL.mk hI', fun ad oa x sa base => h_fill_IA l D cy ad _ _ _ tl_0 oa x sa base x1 x2 0 (c_Tl_fill1 l D cy ad sa base hl0 tp rw pt cn er rc re cg tn ln bg cp cb pn dn op w x1 x2 q1), fun am => c_Mo_fill1 l D cy am k0 tn cp cb bn fo dn w tp er be co fi ro lg oq x1 x2 (Or.inl q1)⟩
  by_cases q2 : x2 < nI 1 ∨ nI 1000 < x2
  · exact ⟨1, 0, _, _, _, by omega, fun q => absurd q (by omega), REL.mk hI', fun ad oa x sa base => h_fill_IA l D cy ad _ _ _ tl_0 oa x sa base x1 x2 0 (c_Tl_fill2 l D cy ad sa base hl0 tp rw pt cn er rc re cg tn ln bg cp cb pn dn op w x1 x2 (fun z => q1 (Or.inl z)) (fun z => q1 (Or.inr z)) q2), fun am => c_Mo_fill1 l D cy am k0 tn cp cb bn fo dn w tp er be co fi ro lg oq x1 x2 (Or.inr q2)⟩
  have a1 := fun z => q1 (Or.inl z)
  have a2 := fun z => q1 (Or.inr z)
  have a3 := fun z => q2 (Or.inl z)
  have a4 := fun z => q2 (Or.inr z)
  obtain ⟨v, e1, v1, v2⟩ := i32_in (by omega) (by omega) a1 a2
  obtain ⟨m, e2, m1, m2⟩ := i32_in (by omega) (by omega) a3 a4
  subst e1 e2
  cases dn with
  | true => exact ⟨2, 0, _, _, _, by omega, fun q => absurd q (by omega), REL.mk hI', fun ad oa x sa base => h_fill_IS l D cy ad _ _ _ tl_0 oa x sa base _ _ 0 (c_Tl_fill3 l D cy ad sa base hl0 tp rw pt cn er rc re cg tn ln bg cp cb pn true op w (nI v) (nI m) a1 a2 a3 a4), fun am => c_Mo_fill2 l D cy am k0 tn cp cb bn fo true w tp er be co fi ro lg oq v m v2 m1 m2⟩
  | false =>
    by_cases q : tn + m ≤ 1060
    · refine ⟨0, _, _, _, _, by omega, fun _ => rfl, REL.mk (hI'.tape ⟨q, ?_, hI.1.2.2⟩), fun ad oa x sa base => h_fill_ok l D cy ad _ _ _ tl_0 oa x sa base _ _ _ (c_Tl_fill0 l D cy ad tp rw pt cn er rc re cg tn ln bg cp cb pn false op w v m v2 m1 m2 q), fun am => c_Mo_fill0 l D cy am k0 tn cp cb bn fo false w tp er be co fi ro lg oq v m v2 m1 m2 q⟩
      exact fun j => upN_256 (n := j + 1) (fun j _ => hI.1.2.1 j) (fun j _ => by omega) j (by omega)
    · exact ⟨3, 0, _, _, _, by omega, fun q => absurd q (by omega), REL.mk hI', fun ad oa x sa base => h_fill_IB l D cy ad _ _ _ tl_0 oa x sa base _ _ 0 (c_Tl_fill4 l D cy ad sa base hl0 tp rw pt cn er rc re cg tn ln bg cp cb pn false op w v m v2 m1 m2 (by omega) hI.1.1), fun am => c_Mo_fill3 l D cy am k0 tn cp cb bn fo false w tp er be co fi ro lg oq v m v2 m1 m2 (by omega) hI.1.1⟩
theorem st_end (hl0 : l.stackTraces = false) (h : REL cy n ct mt k0) (x1 : Int32) : STP l D cy n y_Lw_end b_Lw_end 4 h_Lw_end [.int x1] y_Mo_end b_Mo_end 2 ct mt := by
  obtain ⟨tp, rw, pt, cn, er, rc, re, be, co, fi, ro, cg, tn, ln, bg, cp, cb, pn, bn, fo, dn, op, w, lg, oq, hI, rfl, rfl⟩ := h
  have hI' := hI.mono (Nat.le_succ n)
  have htn := hI.1.1
  by_cases q1 : x1 < nI 0 ∨ nI tn < x1
  · exact ⟨1, 0, _, _, _, by omega, fun q => absurd q (by omega), REL.mk hI', fun ad oa x sa base => h_end_IA l D cy ad _ _ _ tl_0 oa x sa base x1 0 (c_Tl_end1 l D cy ad sa base hl0 tp rw pt cn er rc re cg tn ln bg cp cb pn dn op w x1 q1), fun am => c_Mo_end1 l D cy am k0 tn cp cb bn fo dn w tp er be co fi ro lg oq x1 q1⟩
  have a1 := fun z => q1 (Or.inl z)
  have a2 := fun z => q1 (Or.inr z)
  obtain ⟨v, e1, v1, v2⟩ := i32_in (by omega) (by omega) a1 a2
  subst e1
  cases dn with
  | true => exact ⟨2, 0, _, _, _, by omega, fun q => absurd q (by omega), REL.mk hI', fun ad oa x sa base => h_end_IS l D cy ad _ _ _ tl_0 oa x sa base _ 0 (c_Tl_end2 l D cy ad sa base hl0 tp rw pt cn er rc re cg tn ln bg cp cb pn true op w (nI v) a1 a2), fun am => c_Mo_end2 l D cy am k0 tn cp cb bn fo true w tp er be co fi ro lg oq v v2 htn⟩
  | false => exact ⟨0, _, _, _, _, by omega, fun _ => rfl, REL.mk (hI'.tape ⟨by omega, hI.1.2⟩), fun ad oa x sa base => h_end_ok l D cy ad _ _ _ tl_0 oa x sa base _ _ (c_Tl_end0 l D cy ad tp rw pt cn er rc re cg tn ln bg cp cb pn false op w v v2 htn), fun am => c_Mo_end0 l D cy am k0 tn cp cb bn fo false w tp er be co fi ro lg oq v v2 htn⟩
theorem st_cut (hl0 : l.stackTraces = false) (h : REL cy n ct mt k0) (x1 x2 : Int32) : STP l D cy n y_Lw_cut b_Lw_cut 5 h_Lw_cut [.int x1, .int x2] y_Mo_cut b_Mo_cut 4 ct mt := by
  obtain ⟨tp, rw, pt, cn, er, rc, re, be, co, fi, ro, cg, tn, ln, bg, cp, cb, pn, bn, fo, dn, op, w, lg, oq, hI, rfl, rfl⟩ := h
  have hI' := hI.mono (Nat.le_succ n)
  by_cases q1 : x1 < 0
  · exact ⟨1, 0, _, _, _, by omega, fun q => absurd q (by omega), REL.mk hI', fun ad oa x sa base => h_cut_IA l D cy ad _ _ _ tl_0 oa x sa base x1 x2 0 (c_Tl_cut1 l D cy ad sa base hl0 tp rw pt cn er rc re cg tn ln bg cp cb pn dn op w x1 x2 q1), fun am => c_Mo_cut1 l D cy am k0 tn cp cb bn fo dn w tp er be co fi ro lg oq x1 x2 (Or.inl q1)⟩
  by_cases q2 : x2 < 0
  · exact ⟨1, 0, _, _, _, by omega, fun q => absurd q (by omega), REL.mk hI', fun ad oa x sa base => h_cut_IA l D cy ad _ _ _ tl_0 oa x sa base x1 x2 0 (c_Tl_cut2 l D cy ad sa base hl0 tp rw pt cn er rc re cg tn ln bg cp cb pn dn op w x1 x2 q1 q2), fun am => c_Mo_cut1 l D cy am k0 tn cp cb bn fo dn w tp er be co fi ro lg oq x1 x2 (Or.inr q2)⟩
  obtain ⟨v, v1, e1⟩ := nI_of q1
  obtain ⟨m, m1, e2⟩ := nI_of q2
  subst e1 e2
  exact ⟨0, _, _, _, _, by omega, fun _ => rfl, REL.mk (hI'.tape ⟨hI.1.1, hI.1.2.1, v1, m1⟩), fun ad oa x sa base => h_cut_ok l D cy ad _ _ _ tl_0 oa x sa base _ _ _ (c_Tl_cut0 l D cy ad tp rw pt cn er rc re cg tn ln bg cp cb pn dn op w v m v1 m1), fun am => c_Mo_cut0 l D cy am k0 tn cp cb bn fo dn w tp er be co fi ro lg oq v m v1 m1⟩
theorem st_retire (hl0 : l.stackTraces = false) (hn : n < 512) (h : REL cy n ct mt k0) (x1 : Int32) : STP l D cy n y_Lw_retire b_Lw_retire 4 h_Lw_retire [.int x1] y_Mo_retire b_Mo_retire 3 ct mt := by
  obtain ⟨tp, rw, pt, cn, er, rc, re, be, co, fi, ro, cg, tn, ln, bg, cp, cb, pn, bn, fo, dn, op, w, lg, oq, hI, rfl, rfl⟩ := h
  have hI' := hI.mono (Nat.le_succ n)
  by_cases q1 : x1 < nI 0 ∨ nI 23 < x1
  · exact ⟨1, 0, _, _, _, by omega, fun q => absurd q (by omega), REL.mk hI', fun ad oa x sa base => h_retire_IA l D cy ad _ _ _ tl_0 oa x sa base x1 0 (c_Tl_retire1 l D cy ad sa base hl0 tp rw pt cn er rc re cg tn ln bg cp cb pn dn op w x1 q1), fun am => c_Mo_retire1 l D cy am k0 tn cp cb bn fo dn w tp er be co fi ro lg oq x1 q1⟩
  have a1 := fun z => q1 (Or.inl z)
  have a2 := fun z => q1 (Or.inr z)
  obtain ⟨v, e1, v1, v2⟩ := i32_in (by omega) (by omega) a1 a2
  subst e1
  cases dn with
  | true => exact ⟨2, 0, _, _, _, by omega, fun q => absurd q (by omega), REL.mk hI', fun ad oa x sa base => h_retire_IS l D cy ad _ _ _ tl_0 oa x sa base _ 0 (c_Tl_retire2 l D cy ad sa base hl0 tp rw pt cn er rc re cg tn ln bg cp cb pn true op w (nI v) a1 a2), fun am => c_Mo_retire2 l D cy am k0 tn cp cb bn fo true w tp er be co fi ro lg oq v v2⟩
  | false =>
    by_cases q : v < ln
    · have hd := hI'.drop q
      have hcnt : cntL (va_up lg (rw v) false) 24 = ln - 1 := hd.hln
      have ho : ∀ c, oq = some c → c < 24 := fun c hc => by
        rcases hI.2.2.2.2 rfl with ⟨p1, p2, p3, p4, p5⟩ | ⟨p1, p2⟩
        · rw [p3] at hc; rw [← Option.some.inj hc]; exact hI.HR _ (by omega)
        · rw [p2] at hc; exact absurd hc (by simp)
      have hM := fun am => c_Mo_retire0 l D cy am k0 tn cp cb bn fo false w tp er be co fi ro lg oq v v2 (rw v) (hI.HR v q) (hI.HB hn) (hI.hrow v q).1 ho
      rw [hcnt] at hM
      exact ⟨0, _, _, _, _, by omega, fun _ => rfl, REL.mk hd, fun ad oa x sa base => h_retire_ok l D cy ad _ _ _ tl_0 oa x sa base _ _ (c_Tl_retire0 l D cy ad tp rw pt cn er rc re cg tn ln bg cp cb pn false op w hI.HL hI.HR v v2 q), hM⟩
    · exact ⟨3, 0, _, _, _, by omega, fun q => absurd q (by omega), REL.mk hI', fun ad oa x sa base => h_retire_NE l D cy ad _ _ _ tl_0 oa x sa base _ 0 (c_Tl_retire3 l D cy ad sa base hl0 tp rw pt cn er rc re cg tn ln bg cp cb pn false op w v v2 (by omega)), fun am => c_Mo_retire3 l D cy am k0 tn cp cb bn fo false w tp er be co fi ro lg oq v v2 (hI.HB hn) (hI.2.2.2.1.1.off (by omega))⟩
theorem st_count (hl0 : l.stackTraces = false) (h : REL cy n ct mt k0) (x1 : Int32) : STP l D cy n y_Lw_count b_Lw_count 4 h_Lw_count [.int x1] y_Mo_count b_Mo_count 2 ct mt := by
  obtain ⟨tp, rw, pt, cn, er, rc, re, be, co, fi, ro, cg, tn, ln, bg, cp, cb, pn, bn, fo, dn, op, w, lg, oq, hI, rfl, rfl⟩ := h
  have hI' := hI.mono (Nat.le_succ n)
  by_cases q1 : x1 < nI 0 ∨ nI 4 < x1
  · exact ⟨1, 0, _, _, _, by omega, fun q => absurd q (by omega), REL.mk hI', fun ad oa x sa base => h_count_IA l D cy ad _ _ _ tl_0 oa x sa base x1 0 (c_Tl_count1 l D cy ad sa base hl0 tp rw pt cn er rc re cg tn ln bg cp cb pn dn op w x1 q1), fun am => c_Mo_count1 l D cy am k0 tn cp cb bn fo dn w tp er be co fi ro lg oq x1 q1⟩
  have a1 := fun z => q1 (Or.inl z)
  have a2 := fun z => q1 (Or.inr z)
  obtain ⟨v, e1, v1, v2⟩ := i32_in (by omega) (by omega) a1 a2
  subst e1
  rcases (show v = 0 ∨ v = 1 ∨ v = 2 ∨ v = 3 ∨ v = 4 by omega) with rfl | rfl | rfl | rfl | rfl
  · cases dn with
    | true => exact ⟨2, 0, _, _, _, by omega, fun q => absurd q (by omega), REL.mk hI', fun ad oa x sa base => h_count_IS l D cy ad _ _ _ tl_0 oa x sa base _ 0 (c_Tl_count2_0 l D cy ad sa base hl0 tp rw pt cn er rc re cg tn ln bg cp cb pn true op w), fun am => c_Mo_count2_0 l D cy am k0 tn cp cb bn fo true w tp er be co fi ro lg oq⟩
    | false =>
      have hM := fun am => c_Mo_count0_0 l D cy am k0 tn cp cb bn fo false w tp er be co fi ro lg oq hI.HN
      rw [hI.sumE] at hM
      exact ⟨0, _, _, _, _, by omega, fun _ => rfl, REL.mk hI', fun ad oa x sa base => h_count_ok l D cy ad _ _ _ tl_0 oa x sa base _ _ (c_Tl_count0_0 l D cy ad tp rw pt cn er rc re cg tn ln bg cp cb pn false op w hI.HL hI.HR hI.HQ), hM⟩
  · cases dn with
    | true => exact ⟨2, 0, _, _, _, by omega, fun q => absurd q (by omega), REL.mk hI', fun ad oa x sa base => h_count_IS l D cy ad _ _ _ tl_0 oa x sa base _ 0 (c_Tl_count2_1 l D cy ad sa base hl0 tp rw pt cn er rc re cg tn ln bg cp cb pn true op w), fun am => c_Mo_count2_1 l D cy am k0 tn cp cb bn fo true w tp er be co fi ro lg oq⟩
    | false =>
      have hM := fun am => c_Mo_count0_1 l D cy am k0 tn cp cb bn fo false w tp er be co fi ro lg oq
      rw [hI.hln] at hM
      exact ⟨0, _, _, _, _, by omega, fun _ => rfl, REL.mk hI', fun ad oa x sa base => h_count_ok l D cy ad _ _ _ tl_0 oa x sa base _ _ (c_Tl_count0_1 l D cy ad tp rw pt cn er rc re cg tn ln bg cp cb pn false op w), hM⟩
  · exact ⟨0, _, _, _, _, by omega, fun _ => rfl, REL.mk hI', fun ad oa x sa base => h_count_ok l D cy ad _ _ _ tl_0 oa x sa base _ _ (c_Tl_count0_2 l D cy ad tp rw pt cn er rc re cg tn ln bg cp cb pn dn op w), fun am => c_Mo_count0_2 l D cy am k0 tn cp cb bn fo dn w tp er be co fi ro lg oq⟩
  · exact ⟨0, _, _, _, _, by omega, fun _ => rfl, REL.mk hI', fun ad oa x sa base => h_count_ok l D cy ad _ _ _ tl_0 oa x sa base _ _ (c_Tl_count0_3 l D cy ad tp rw pt cn er rc re cg tn ln bg cp cb pn dn op w), fun am => c_Mo_count0_3 l D cy am k0 tn cp cb bn fo dn w tp er be co fi ro lg oq⟩
  · exact ⟨0, _, _, _, _, by omega, fun _ => rfl, REL.mk hI', fun ad oa x sa base => h_count_ok l D cy ad _ _ _ tl_0 oa x sa base _ _ (c_Tl_count0_4 l D cy ad tp rw pt cn er rc re cg tn ln bg cp cb pn dn op w), fun am => c_Mo_count0_4 l D cy am k0 tn cp cb bn fo dn w tp er be co fi ro lg oq⟩
def STM (l : Launch) (D : va_G) (cy : Nat → ClassId) (n : Nat) (ct mt : (Nat → Nat) → Nat → va_E) : Prop :=
  ∃ (r : Int32) (ct' mt' : (Nat → Nat) → Nat → va_E), REL cy (n + 1) ct' mt' 0
    ∧ (∀ ad : Nat → Nat, mtX l y_Tl_mount b_Tl_mount 1 (some .int) RT D cy [.ref (ad 0)] ad (ct ad) ct' r)
    ∧ ∀ am : Nat → Nat, mtI l y_Mo_mount b_Mo_mount 2 (some .int) RM D cy [.ref (am 0)] PM am (mt am) (mt' am) r
theorem st_mount (hn : n < 512) (h : REL cy n ct mt k0) : STM l D cy n ct mt := by
  obtain ⟨tp, rw, pt, cn, er, rc, re, be, co, fi, ro, cg, tn, ln, bg, cp, cb, pn, bn, fo, dn, op, w, lg, oq, hI, rfl, rfl⟩ := h
  have hI' := (hI.mono (Nat.le_succ n)).mount
  have hbg := hI.2.1.1
  have hM := fun am => c_Mo_mount l D cy am k0 tn cp cb bn fo dn w tp er be co fi ro lg oq (hI.HB hn) hI.HN
  rw [hI'.sumE] at hM
  exact ⟨_, _, _, REL.mk hI', fun ad => c_Tl_mount l D cy ad tp rw pt cn er rc re cg tn ln bg cp cb pn dn op w hI.HC hI.HG (fun b hb q => by
    have := hI.2.2.1.or_le hb ((hI.2.2.1.1 b hb).2.2.2.2.1.mp q)
    omega) hI'.HQ, hM⟩
end STP

/-! TornLog$Log: takeBlock, findOnChip -/
/-- the addresses behind a call that may have made one cell: those of cells' arrays alone may differ -/
def nxt (ad ad' : Nat → Nat) (sz : Nat) : Prop := (∀ i, i < 40 → ad' i = ad i) ∧ (∀ i, PT i → ad' i = ad i ∨ sz ≤ ad' i) ∧ ∀ i j, PT i → PT j → ad' i = ad' j → i = j
theorem nxt_rf {A : Nat → Prop} {ad : Nat → Nat} {sz : Nat} (hd : nd A PT ad) : nxt ad ad sz := ⟨fun _ _ => rfl, fun _ _ => Or.inl rfl, hd.1⟩
theorem nxt_up {A : Nat → Prop} {ad : Nat → Nat} {sz b q : Nat} (hd : nd A PT (va_up ad (40 + b) q)) (hq : q = ad (40 + b) ∨ sz ≤ q) : nxt ad (va_up ad (40 + b) q) sz := by
  refine ⟨fun i hi => va_up_ne _ _ (by omega), fun i hi => ?_, hd.1⟩
  by_cases h : i = 40 + b
  · subst h; rw [va_up_self]; exact hq
  · exact Or.inl (va_up_ne _ _ h)
abbrev mtX (l : Launch) (y : MethodName) (cc : ByteArray) (maxL : Nat) (ret : Option FieldType) (rm : Room) (D : va_G) (cy : Nat → ClassId) (av : List Value) (ad : Nat → Nat) (ct : Nat → va_E) (ct1 : (Nat → Nat) → Nat → va_E) (r : Int32) : Prop :=
  ∀ sz : Nat, Met l y (Cond.code y cc maxL ret :: TG) rm (va_Pc av (fun U => U.heap.size = sz ∧ pre0 D cy PT ad ct U)) (va_Qi (fun r' (ad' : Nat → Nat) => r' = r ∧ nxt ad ad' sz) (fun ad' t => nw D vcl PT ad' (ct1 ad') t.heap) (na PT ad sz)) rm.cells rm.slots (na PT ad sz)
theorem scan_fresh {g : Nat → Nat} {n : Nat} (h : ∀ j, 6 ≤ j → j < 2048 → g j = 255) (hn : n = 2048) (k : Nat) : scan (vc n g) k 6 = (0, 6) := by
  cases k with
  | zero => rfl
  | succ k =>
    subst hn
    have e11 : vc 2048 g 11 = 255 := by simp [vc, h 11 (by omega) (by omega)]
    have e12 : vc 2048 g 12 = 255 := by simp [vc, h 12 (by omega) (by omega)]
    have e13 : vc 2048 g 13 = 255 := by simp [vc, h 13 (by omega) (by omega)]
    have hw : whole (vc 2048 g) 6 = false := by
      simp [whole, szf, num, e11, e12, e13]
    simp [scan, hw]
theorem fil_all {g : Nat → Nat} {n j : Nat} (h : j < n) : fil g n j = 255 := by simp [fil, h]
/-- what a begun block's cells are: erased, then the beginning, d bytes of it -/
def G2 (g0 pt : Nat → Nat) (bg d : Nat) : Nat → Nat := upN (fil g0 2048) 0 (PB pt bg) d
set_option maxRecDepth 100000 in
set_option maxHeartbeats 4000000 in
theorem c_Lg_takeBlock0 (l : Launch) (D : va_G) (cy : Nat → ClassId) (ad : Nat → Nat) (b : Nat) (g0 : Nat → Nat) (tp rw pt cn er rc re : Nat → Nat) (cg : Nat → Nat → Nat) (tn ln bg cp cb pn : Nat) (dn op w : Bool) (HL : ln ≤ 24) (HR : ∀ i, i < ln → rw i < 24) (HC : ∀ b, b < 24 → cn b < 2 ^ 16) (HG : ∀ b, b < 24 → ∀ j, j < cn b → cg b j < 256) (hcp : cp < 2 ^ 31) (hcb : cb < 2 ^ 31) (HE : ∀ b, b < 24 → er b < 2 ^ 30) (hbg : bg < 2 ^ 30) (hle : lea er (heldB rw ln) 24 = some b) (hcn : (cn b = 0 ∧ g0 = fun _ => 0) ∨ (cn b = 2048 ∧ g0 = cg b)) (HG0 : ∀ j, j < 2048 → g0 j < 256) (hd1 : cutN w cp cb 2048 ≠ 2048) : mtX l y_Lg_takeBlock b_Lg_takeBlock 2 (some .boolean) { frames := 5, cells := 1, slots := 2048, locals := 110 } D cy [.ref (ad 3)] ad (tlC cy ad tp tn dn rw ln op bg w cp cb pt pn cn cg er rc re) (fun ad' => tlC cy ad' tp tn dn rw ln op bg (cutW w cp) (cutP w cp) cb pt pn (va_up cn b 2048) (va_up cg b (fil g0 (cutN w cp cb 2048))) (va_up er b (er b + 1)) rc re) (bI false) := by
  intro sz
  refine nm_ofW (cc := b_Lg_takeBlock) (maxL := 2) (ret := (some .boolean)) (own := R_Lg) (by decide) (Nat.le_of_ble_eq_true rfl) rfl ?_
  intro p e s m below meth c ls F hr hlk hnm hv hl
  obtain ⟨hx, hb, hml, hown, hts⟩ := id F
  obtain ⟨rfl, hP, hK, hI⟩ := hv
  have hD : nd (na PT ad s.heap.size) PT ad := nd_self hI
  have hA : ∀ q, s.heap.size ≤ q → na PT ad s.heap.size q := fun q h => Or.inr h
  have hS : va_S (na PT ad s.heap.size) s.heap s.heap [] := va_S.rf
  have hl : lv_has ls 2 [(0, .ref (ad 3))] := hl
  have hb24 := lea_lt hle
  have hc0 := HC _ hb24
  have hE0 := HE _ hb24
  refine lv_aload_n hx hb d_Lg_takeBlock_0 rfl (lv_at hl 0 rfl) ?_
  refine call_R (As := []) (rest := []) F hK (c_Lg_leastErased l D cy ad tp rw pt cn er rc re cg tn ln bg cp cb pn dn op w HL HR (fun b hb => Nat.lt_trans (HE b hb) (by omega))) km_Lg_63 ki_Lg_leastErased ks_Lg_leastErased k0_Lg kc_Lg_leastErased kd_Lg_leastErased ⟨Nat.le_of_ble_eq_true rfl, Nat.le_of_ble_eq_true rfl⟩ (nw_recv hK.k hP (i := 3) (by decide) tl_3 rfl) (hP) (hI) hl.1 rfl (Nat.le_of_ble_eq_true rfl) d_Lg_takeBlock_1 ⟨(Nat.le_of_ble_eq_true rfl), (Nat.le_of_ble_eq_true rfl)⟩ hS (fun H1 locs1 hN hS => ?_)
  have hP := hN _ _ _ hP
  generalize H1 = H at hP hS ⊢
  refine lv_eqi (y := nI b) (by rw [hle]; rfl) ?_
  refine lv_istore_n (lv' := [(1, .int (nI b)), (0, .ref (ad 3))]) hx hb d_Lg_takeBlock_4 rfl hl (by decide) rfl (fun ls hl => ?_)
  refine lv_iload_n hx hb d_Lg_takeBlock_5 rfl (lv_at hl 0 rfl) ?_
  refine lv_if_lt (tgt := 38) hx hb d_Lg_takeBlock_6 (by decide) (fun c6 => absurd c6 (nI_pos (by omega))) (fun c6 => ?_)
  refine lv_aload_n hx hb d_Lg_takeBlock_9 rfl (lv_at hl 1 rfl) ?_
  refine nw_get (D := D) (ci := 3) (C := R_Lg) (T := T_Lg) (N := 7) hx hb hts in_Lg hown hK.k hP (i := 3) (by decide) tl_3 rfl 0 (by decide) (hts _ kf_Lg_11) rfl d_Lg_takeBlock_10 ?_
  refine lv_iload_n hx hb d_Lg_takeBlock_13 rfl (lv_at hl 0 rfl) ?_
  refine nw_aald hx hb hK.k hP (i := 4) (by decide) tl_4 4 rfl (C := R_Bk) (vp_in_nI (by omega) (by omega)) (r := ad (10 + b)) (by rw [nI_clamp (by omega)]; exact if_pos (by omega)) d_Lg_takeBlock_14 ?_
  refine lv_aload_n hx hb d_Lg_takeBlock_15 rfl (lv_at hl 1 rfl) ?_
  refine nw_get (D := D) (ci := 3) (C := R_Lg) (T := T_Lg) (N := 7) hx hb hts in_Lg hown hK.k hP (i := 3) (by decide) tl_3 rfl 5 (by decide) (hts _ kf_Lg_36) rfl d_Lg_takeBlock_16 ?_
  have hM : mtE l D cy (fun i => ad (q_er b i)) (cn b) (cg b) g0 (er b) (rc b) (re b) w cp cb := by
    rcases hcn with ⟨h1, h2⟩ | ⟨h1, h2⟩
    · rw [h1, h2]; exact c_Bk_erase0 l D cy (fun i => ad (q_er b i)) (er b) (rc b) (re b) cp cb (cg b) w hcp hcb
    · rw [h1, h2]; exact c_Bk_erase1 l D cy (fun i => ad (q_er b i)) (er b) (rc b) (re b) cp cb (cg b) w hcp hcb
  have hsz := hS.1
  refine va_calli (va_runV (As := [.ref (ad 6)]) (rest := []) (b := ad (10 + b)) F (hM _) ⟨cw_b 1 hts km_Lg_67 k0_Bk kc_Bk_erase kd_Bk_erase ⟨Nat.le_of_ble_eq_true rfl, Nat.le_of_ble_eq_true rfl⟩, hts _ ki_Bk_erase, hts _ ks_Bk_erase⟩ ⟨pre0_blind, nw_recv hK.k hP (i := 10 + b) (PT_b hb24) (tl_b hb24) rfl, pre0_at hK (nw_sub hP (q_er b) (qs_er hb24)) (qi_er hb24 hD)⟩ rfl rfl hl.1 rfl (lv_room (Nat.le_of_ble_eq_true rfl)) d_Lg_takeBlock_19 ⟨Nat.le_of_ble_eq_true rfl, Nat.le_of_ble_eq_true rfl⟩) hS (fun q _ h => na_sub hD hS hA (q_er b) (qp_er hb24) q h) (na_sub hD hS hA (q_er b) (qp_er hb24)) (fun r9 q t H1 locs1 ht hvm hw hB hz hk1 hS => ?_)
  obtain ⟨rfl, hq⟩ := hw
  have hB : nw D vcl lt3 (va_up (fun i => ad (q_er b i)) 1 q) _ t.heap := hB
  rw [ht] at hB
  have hq' : q = ad (40 + b) ∨ Array.size _ ≤ q := hq
  have hAq : na PT ad s.heap.size q := hq.elim (fun h => Or.inl ⟨40 + b, PT_c hb24, h⟩) (fun h => Or.inr (Nat.le_trans hsz h))
  obtain ⟨hP, hD⟩ := er_join hb24 hP hD hq hAq hk1 hB
  have hnx : nxt ad (va_up ad (40 + b) q) s.heap.size := nxt_up hD (hq.elim Or.inl (fun h => Or.inr (Nat.le_trans hsz h)))
  have e3 : va_up ad (40 + b) q 3 = ad 3 := va_up_ne _ _ (by omega)
  generalize va_up ad (40 + b) q = ad' at hP hD hnx e3
  have hl : lv_has ls 2 [(1, .int (nI b)), (0, .ref (ad' 3))] := by rw [e3]; exact lv_sub hl [0, 1] rfl
  have hA : ∀ q, s.heap.size ≤ q → na PT ad s.heap.size q := hA
  simp only [va_up_id] at hP
  generalize H1 = H at hP hS ⊢
  refine lv_eqi (y := bI false) (by rw [decide_eq_false hd1]) ?_
  refine lv_if_eq (tgt := 38) hx hb d_Lg_takeBlock_22 (by decide) (fun c22 => ?_) (fun c22 => absurd (show bI false = 0 by decide) c22)
  refine lv_iconst (v := nI 0) hx hb d_Lg_takeBlock_38 (by decide) ?_
  exact W.zret hx hb hr rfl (fun t ht hW => ⟨⟨_, ad', rfl, ⟨rfl, hnx⟩, by show nw _ _ _ _ _ t.heap; rw [ht]; exact hP⟩, hS.F ht⟩) hS.2.2 d_Lg_takeBlock_39 hlk
set_option maxRecDepth 100000 in
set_option maxHeartbeats 4000000 in
theorem c_Lg_takeBlock1 (l : Launch) (D : va_G) (cy : Nat → ClassId) (ad : Nat → Nat) (b : Nat) (g0 : Nat → Nat) (tp rw pt cn er rc re : Nat → Nat) (cg : Nat → Nat → Nat) (tn ln bg cp cb pn : Nat) (dn op w : Bool) (HL : ln ≤ 24) (HR : ∀ i, i < ln → rw i < 24) (HC : ∀ b, b < 24 → cn b < 2 ^ 16) (HG : ∀ b, b < 24 → ∀ j, j < cn b → cg b j < 256) (hcp : cp < 2 ^ 31) (hcb : cb < 2 ^ 31) (HE : ∀ b, b < 24 → er b < 2 ^ 30) (hbg : bg < 2 ^ 30) (hle : lea er (heldB rw ln) 24 = some b) (hcn : (cn b = 0 ∧ g0 = fun _ => 0) ∨ (cn b = 2048 ∧ g0 = cg b)) (HG0 : ∀ j, j < 2048 → g0 j < 256) (hd1 : cutN w cp cb 2048 = 2048) (hd2 : cutN (cutW w cp) (cutP w cp) cb 6 ≠ 6) : mtX l y_Lg_takeBlock b_Lg_takeBlock 2 (some .boolean) { frames := 5, cells := 1, slots := 2048, locals := 110 } D cy [.ref (ad 3)] ad (tlC cy ad tp tn dn rw ln op bg w cp cb pt pn cn cg er rc re) (fun ad' => tlC cy ad' tp tn dn rw ln op (bg + 1) (cutW (cutW w cp) (cutP w cp)) (cutP (cutW w cp) (cutP w cp)) cb (PB pt bg) 6 (va_up cn b 2048) (va_up cg b (G2 g0 pt bg (cutN (cutW w cp) (cutP w cp) cb 6))) (va_up er b (er b + 1)) rc re) (bI false) := by
  intro sz
  refine nm_ofW (cc := b_Lg_takeBlock) (maxL := 2) (ret := (some .boolean)) (own := R_Lg) (by decide) (Nat.le_of_ble_eq_true rfl) rfl ?_
  intro p e s m below meth c ls F hr hlk hnm hv hl
  obtain ⟨hx, hb, hml, hown, hts⟩ := id F
  obtain ⟨rfl, hP, hK, hI⟩ := hv
  have hD : nd (na PT ad s.heap.size) PT ad := nd_self hI
  have hA : ∀ q, s.heap.size ≤ q → na PT ad s.heap.size q := fun q h => Or.inr h
  have hS : va_S (na PT ad s.heap.size) s.heap s.heap [] := va_S.rf
  have hl : lv_has ls 2 [(0, .ref (ad 3))] := hl
  have hb24 := lea_lt hle
  have hc0 := HC _ hb24
  have hE0 := HE _ hb24
  refine lv_aload_n hx hb d_Lg_takeBlock_0 rfl (lv_at hl 0 rfl) ?_
  refine call_R (As := []) (rest := []) F hK (c_Lg_leastErased l D cy ad tp rw pt cn er rc re cg tn ln bg cp cb pn dn op w HL HR (fun b hb => Nat.lt_trans (HE b hb) (by omega))) km_Lg_63 ki_Lg_leastErased ks_Lg_leastErased k0_Lg kc_Lg_leastErased kd_Lg_leastErased ⟨Nat.le_of_ble_eq_true rfl, Nat.le_of_ble_eq_true rfl⟩ (nw_recv hK.k hP (i := 3) (by decide) tl_3 rfl) (hP) (hI) hl.1 rfl (Nat.le_of_ble_eq_true rfl) d_Lg_takeBlock_1 ⟨(Nat.le_of_ble_eq_true rfl), (Nat.le_of_ble_eq_true rfl)⟩ hS (fun H1 locs1 hN hS => ?_)
  have hP := hN _ _ _ hP
  generalize H1 = H at hP hS ⊢
  refine lv_eqi (y := nI b) (by rw [hle]; rfl) ?_
  refine lv_istore_n (lv' := [(1, .int (nI b)), (0, .ref (ad 3))]) hx hb d_Lg_takeBlock_4 rfl hl (by decide) rfl (fun ls hl => ?_)
  refine lv_iload_n hx hb d_Lg_takeBlock_5 rfl (lv_at hl 0 rfl) ?_
  refine lv_if_lt (tgt := 38) hx hb d_Lg_takeBlock_6 (by decide) (fun c6 => absurd c6 (nI_pos (by omega))) (fun c6 => ?_)
  refine lv_aload_n hx hb d_Lg_takeBlock_9 rfl (lv_at hl 1 rfl) ?_
  refine nw_get (D := D) (ci := 3) (C := R_Lg) (T := T_Lg) (N := 7) hx hb hts in_Lg hown hK.k hP (i := 3) (by decide) tl_3 rfl 0 (by decide) (hts _ kf_Lg_11) rfl d_Lg_takeBlock_10 ?_
  refine lv_iload_n hx hb d_Lg_takeBlock_13 rfl (lv_at hl 0 rfl) ?_
  refine nw_aald hx hb hK.k hP (i := 4) (by decide) tl_4 4 rfl (C := R_Bk) (vp_in_nI (by omega) (by omega)) (r := ad (10 + b)) (by rw [nI_clamp (by omega)]; exact if_pos (by omega)) d_Lg_takeBlock_14 ?_
  refine lv_aload_n hx hb d_Lg_takeBlock_15 rfl (lv_at hl 1 rfl) ?_
  refine nw_get (D := D) (ci := 3) (C := R_Lg) (T := T_Lg) (N := 7) hx hb hts in_Lg hown hK.k hP (i := 3) (by decide) tl_3 rfl 5 (by decide) (hts _ kf_Lg_36) rfl d_Lg_takeBlock_16 ?_
  have hM : mtE l D cy (fun i => ad (q_er b i)) (cn b) (cg b) g0 (er b) (rc b) (re b) w cp cb := by
    rcases hcn with ⟨h1, h2⟩ | ⟨h1, h2⟩
    · rw [h1, h2]; exact c_Bk_erase0 l D cy (fun i => ad (q_er b i)) (er b) (rc b) (re b) cp cb (cg b) w hcp hcb
    · rw [h1, h2]; exact c_Bk_erase1 l D cy (fun i => ad (q_er b i)) (er b) (rc b) (re b) cp cb (cg b) w hcp hcb
  have hsz := hS.1
  refine va_calli (va_runV (As := [.ref (ad 6)]) (rest := []) (b := ad (10 + b)) F (hM _) ⟨cw_b 1 hts km_Lg_67 k0_Bk kc_Bk_erase kd_Bk_erase ⟨Nat.le_of_ble_eq_true rfl, Nat.le_of_ble_eq_true rfl⟩, hts _ ki_Bk_erase, hts _ ks_Bk_erase⟩ ⟨pre0_blind, nw_recv hK.k hP (i := 10 + b) (PT_b hb24) (tl_b hb24) rfl, pre0_at hK (nw_sub hP (q_er b) (qs_er hb24)) (qi_er hb24 hD)⟩ rfl rfl hl.1 rfl (lv_room (Nat.le_of_ble_eq_true rfl)) d_Lg_takeBlock_19 ⟨Nat.le_of_ble_eq_true rfl, Nat.le_of_ble_eq_true rfl⟩) hS (fun q _ h => na_sub hD hS hA (q_er b) (qp_er hb24) q h) (na_sub hD hS hA (q_er b) (qp_er hb24)) (fun r9 q t H1 locs1 ht hvm hw hB hz hk1 hS => ?_)
  obtain ⟨rfl, hq⟩ := hw
  have hB : nw D vcl lt3 (va_up (fun i => ad (q_er b i)) 1 q) _ t.heap := hB
  rw [ht] at hB
  have hq' : q = ad (40 + b) ∨ Array.size _ ≤ q := hq
  have hAq : na PT ad s.heap.size q := hq.elim (fun h => Or.inl ⟨40 + b, PT_c hb24, h⟩) (fun h => Or.inr (Nat.le_trans hsz h))
  obtain ⟨hP, hD⟩ := er_join hb24 hP hD hq hAq hk1 hB
  have hnx : nxt ad (va_up ad (40 + b) q) s.heap.size := nxt_up hD (hq.elim Or.inl (fun h => Or.inr (Nat.le_trans hsz h)))
  have e3 : va_up ad (40 + b) q 3 = ad 3 := va_up_ne _ _ (by omega)
  generalize va_up ad (40 + b) q = ad' at hP hD hnx e3
  have hl : lv_has ls 2 [(1, .int (nI b)), (0, .ref (ad' 3))] := by rw [e3]; exact lv_sub hl [0, 1] rfl
  have hA : ∀ q, s.heap.size ≤ q → na PT ad s.heap.size q := hA
  simp only [va_up_id] at hP
  generalize H1 = H at hP hS ⊢
  refine lv_eqi (y := bI true) (by rw [decide_eq_true hd1]) ?_
  rw [hd1] at hP
  refine lv_if_eq (tgt := 38) hx hb d_Lg_takeBlock_22 (by decide) (fun c22 => absurd c22 (show ¬ bI true = 0 by decide)) (fun c22 => ?_)
  have HC2 : ∀ t, t < 24 → va_up cn b 2048 t < 2 ^ 16 := fun t ht => by unfold va_up; split <;> first | omega | exact HC t ht
  have HG2 : ∀ t, t < 24 → ∀ j, j < va_up cn b 2048 t → va_up cg b (fil g0 2048) t j < 256 := fun t ht j hj => by
    by_cases h : t = b
    · subst h; rw [va_up_self] at hj ⊢; rw [fil_all hj]; omega
    · rw [va_up_ne _ _ h] at hj ⊢; exact HG t ht j hj
  refine lv_aload_n hx hb d_Lg_takeBlock_25 rfl (lv_at hl 1 rfl) ?_
  refine lv_aload_n hx hb d_Lg_takeBlock_26 rfl (lv_at hl 1 rfl) ?_
  refine nw_get (D := D) (ci := 3) (C := R_Lg) (T := T_Lg) (N := 7) hx hb hts in_Lg hown hK.k hP (i := 3) (by decide) tl_3 rfl 0 (by decide) (hts _ kf_Lg_11) rfl d_Lg_takeBlock_27 ?_
  refine lv_iload_n hx hb d_Lg_takeBlock_30 rfl (lv_at hl 0 rfl) ?_
  refine nw_aald hx hb hK.k hP (i := 4) (by decide) tl_4 4 rfl (C := R_Bk) (vp_in_nI (by omega) (by omega)) (r := ad' (10 + b)) (by rw [nI_clamp (by omega)]; exact if_pos (by omega)) d_Lg_takeBlock_31 ?_
  refine call_I (As := [.ref (ad' (10 + b))]) (rest := []) F hK (c_Lg_writeBeginning l D cy ad' b tp rw pt (va_up cn b 2048) (va_up er b (er b + 1)) rc re (va_up cg b (fil g0 2048)) tn ln bg (cutP w cp) cb pn dn op (cutW w cp) HC2 HG2 (by unfold cutP; split <;> omega) hcb hb24 (by rw [va_up_self]; omega) (fun j hj => by rw [va_up_self]; exact fil_all (by omega)) hbg) km_Lg_71 ki_Lg_writeBeginning ks_Lg_writeBeginning k0_Lg kc_Lg_writeBeginning kd_Lg_writeBeginning ⟨Nat.le_of_ble_eq_true rfl, Nat.le_of_ble_eq_true rfl⟩ (nw_recv hK.k hP (i := 3) (by decide) tl_3 rfl) (hP) (hD.1) hl.1 rfl (Nat.le_of_ble_eq_true rfl) d_Lg_takeBlock_32 ⟨(Nat.le_of_ble_eq_true rfl), (Nat.le_of_ble_eq_true rfl)⟩ hS (fun q h => h.elim (fun ⟨i, hi, e⟩ => by rw [e]; exact hD.2 i hi) (fun h => Or.inr (Nat.le_trans hS.1 h))) (fun H1 locs1 hP1 hk1 hS => ?_)
  have hP : nw D vcl PT ad' (tlC cy ad' tp tn dn rw ln op (bg + 1) (cutW (cutW w cp) (cutP w cp)) (cutP (cutW w cp) (cutP w cp)) cb (PB pt bg) 6 (va_up cn b 2048) (va_up cg b (G2 g0 pt bg (cutN (cutW w cp) (cutP w cp) cb 6))) (va_up er b (er b + 1)) rc re) H1 := by have z := hP1; simp only [va_up_self, bx_uu] at z; exact z
  generalize H1 = H at hP hS ⊢
  refine lv_eqi (y := bI false) (by rw [decide_eq_false hd2]) ?_
  refine lv_if_ne (tgt := 40) hx hb d_Lg_takeBlock_35 (by decide) (fun c35 => absurd (show bI false = 0 by decide) c35) (fun c35 => ?_)
  refine lv_iconst (v := nI 0) hx hb d_Lg_takeBlock_38 (by decide) ?_
  exact W.zret hx hb hr rfl (fun t ht hW => ⟨⟨_, ad', rfl, ⟨rfl, hnx⟩, by show nw _ _ _ _ _ t.heap; rw [ht]; exact hP⟩, hS.F ht⟩) hS.2.2 d_Lg_takeBlock_39 hlk
set_option maxRecDepth 100000 in
set_option maxHeartbeats 4000000 in
theorem c_Lg_takeBlock2 (l : Launch) (D : va_G) (cy : Nat → ClassId) (ad : Nat → Nat) (b : Nat) (g0 : Nat → Nat) (tp rw pt cn er rc re : Nat → Nat) (cg : Nat → Nat → Nat) (tn ln bg cp cb pn : Nat) (dn op w : Bool) (HL : ln ≤ 24) (HR : ∀ i, i < ln → rw i < 24) (HC : ∀ b, b < 24 → cn b < 2 ^ 16) (HG : ∀ b, b < 24 → ∀ j, j < cn b → cg b j < 256) (hcp : cp < 2 ^ 31) (hcb : cb < 2 ^ 31) (HE : ∀ b, b < 24 → er b < 2 ^ 30) (hbg : bg < 2 ^ 30) (hle : lea er (heldB rw ln) 24 = some b) (hcn : (cn b = 0 ∧ g0 = fun _ => 0) ∨ (cn b = 2048 ∧ g0 = cg b)) (HG0 : ∀ j, j < 2048 → g0 j < 256) (hd1 : cutN w cp cb 2048 = 2048) (hd2 : cutN (cutW w cp) (cutP w cp) cb 6 = 6) (hl24 : ln < 24) (HO : ∀ i, i < ln → orB (va_up cn b 2048) (va_up cg b (G2 g0 pt bg 6)) (rw i) < 2 ^ 31) (hob : orB (va_up cn b 2048) (va_up cg b (G2 g0 pt bg 6)) b < 2 ^ 31) : mtX l y_Lg_takeBlock b_Lg_takeBlock 2 (some .boolean) { frames := 5, cells := 1, slots := 2048, locals := 110 } D cy [.ref (ad 3)] ad (tlC cy ad tp tn dn rw ln op bg w cp cb pt pn cn cg er rc re) (fun ad' => tlC cy ad' tp tn dn (insR (orB (va_up cn b 2048) (va_up cg b (G2 g0 pt bg 6))) rw b ln) (ln + 1) true (bg + 1) (cutW (cutW w cp) (cutP w cp)) (cutP (cutW w cp) (cutP w cp)) cb (PB pt bg) 6 (va_up cn b 2048) (va_up cg b (G2 g0 pt bg 6)) (va_up er b (er b + 1)) (va_up rc b 0) (va_up re b 6)) (bI true) := by
  intro sz
  refine nm_ofW (cc := b_Lg_takeBlock) (maxL := 2) (ret := (some .boolean)) (own := R_Lg) (by decide) (Nat.le_of_ble_eq_true rfl) rfl ?_
  intro p e s m below meth c ls F hr hlk hnm hv hl
  obtain ⟨hx, hb, hml, hown, hts⟩ := id F
  obtain ⟨rfl, hP, hK, hI⟩ := hv
  have hD : nd (na PT ad s.heap.size) PT ad := nd_self hI
  have hA : ∀ q, s.heap.size ≤ q → na PT ad s.heap.size q := fun q h => Or.inr h
  have hS : va_S (na PT ad s.heap.size) s.heap s.heap [] := va_S.rf
  have hl : lv_has ls 2 [(0, .ref (ad 3))] := hl
  have hb24 := lea_lt hle
  have hc0 := HC _ hb24
  have hE0 := HE _ hb24
  refine lv_aload_n hx hb d_Lg_takeBlock_0 rfl (lv_at hl 0 rfl) ?_
  refine call_R (As := []) (rest := []) F hK (c_Lg_leastErased l D cy ad tp rw pt cn er rc re cg tn ln bg cp cb pn dn op w HL HR (fun b hb => Nat.lt_trans (HE b hb) (by omega))) km_Lg_63 ki_Lg_leastErased ks_Lg_leastErased k0_Lg kc_Lg_leastErased kd_Lg_leastErased ⟨Nat.le_of_ble_eq_true rfl, Nat.le_of_ble_eq_true rfl⟩ (nw_recv hK.k hP (i := 3) (by decide) tl_3 rfl) (hP) (hI) hl.1 rfl (Nat.le_of_ble_eq_true rfl) d_Lg_takeBlock_1 ⟨(Nat.le_of_ble_eq_true rfl), (Nat.le_of_ble_eq_true rfl)⟩ hS (fun H1 locs1 hN hS => ?_)
  have hP := hN _ _ _ hP
  generalize H1 = H at hP hS ⊢
  refine lv_eqi (y := nI b) (by rw [hle]; rfl) ?_
  refine lv_istore_n (lv' := [(1, .int (nI b)), (0, .ref (ad 3))]) hx hb d_Lg_takeBlock_4 rfl hl (by decide) rfl (fun ls hl => ?_)
  refine lv_iload_n hx hb d_Lg_takeBlock_5 rfl (lv_at hl 0 rfl) ?_
  refine lv_if_lt (tgt := 38) hx hb d_Lg_takeBlock_6 (by decide) (fun c6 => absurd c6 (nI_pos (by omega))) (fun c6 => ?_)
  refine lv_aload_n hx hb d_Lg_takeBlock_9 rfl (lv_at hl 1 rfl) ?_
  refine nw_get (D := D) (ci := 3) (C := R_Lg) (T := T_Lg) (N := 7) hx hb hts in_Lg hown hK.k hP (i := 3) (by decide) tl_3 rfl 0 (by decide) (hts _ kf_Lg_11) rfl d_Lg_takeBlock_10 ?_
  refine lv_iload_n hx hb d_Lg_takeBlock_13 rfl (lv_at hl 0 rfl) ?_
  refine nw_aald hx hb hK.k hP (i := 4) (by decide) tl_4 4 rfl (C := R_Bk) (vp_in_nI (by omega) (by omega)) (r := ad (10 + b)) (by rw [nI_clamp (by omega)]; exact if_pos (by omega)) d_Lg_takeBlock_14 ?_
  refine lv_aload_n hx hb d_Lg_takeBlock_15 rfl (lv_at hl 1 rfl) ?_
  refine nw_get (D := D) (ci := 3) (C := R_Lg) (T := T_Lg) (N := 7) hx hb hts in_Lg hown hK.k hP (i := 3) (by decide) tl_3 rfl 5 (by decide) (hts _ kf_Lg_36) rfl d_Lg_takeBlock_16 ?_
  have hM : mtE l D cy (fun i => ad (q_er b i)) (cn b) (cg b) g0 (er b) (rc b) (re b) w cp cb := by
    rcases hcn with ⟨h1, h2⟩ | ⟨h1, h2⟩
    · rw [h1, h2]; exact c_Bk_erase0 l D cy (fun i => ad (q_er b i)) (er b) (rc b) (re b) cp cb (cg b) w hcp hcb
    · rw [h1, h2]; exact c_Bk_erase1 l D cy (fun i => ad (q_er b i)) (er b) (rc b) (re b) cp cb (cg b) w hcp hcb
  have hsz := hS.1
  refine va_calli (va_runV (As := [.ref (ad 6)]) (rest := []) (b := ad (10 + b)) F (hM _) ⟨cw_b 1 hts km_Lg_67 k0_Bk kc_Bk_erase kd_Bk_erase ⟨Nat.le_of_ble_eq_true rfl, Nat.le_of_ble_eq_true rfl⟩, hts _ ki_Bk_erase, hts _ ks_Bk_erase⟩ ⟨pre0_blind, nw_recv hK.k hP (i := 10 + b) (PT_b hb24) (tl_b hb24) rfl, pre0_at hK (nw_sub hP (q_er b) (qs_er hb24)) (qi_er hb24 hD)⟩ rfl rfl hl.1 rfl (lv_room (Nat.le_of_ble_eq_true rfl)) d_Lg_takeBlock_19 ⟨Nat.le_of_ble_eq_true rfl, Nat.le_of_ble_eq_true rfl⟩) hS (fun q _ h => na_sub hD hS hA (q_er b) (qp_er hb24) q h) (na_sub hD hS hA (q_er b) (qp_er hb24)) (fun r9 q t H1 locs1 ht hvm hw hB hz hk1 hS => ?_)
  obtain ⟨rfl, hq⟩ := hw
  have hB : nw D vcl lt3 (va_up (fun i => ad (q_er b i)) 1 q) _ t.heap := hB
  rw [ht] at hB
  have hq' : q = ad (40 + b) ∨ Array.size _ ≤ q := hq
  have hAq : na PT ad s.heap.size q := hq.elim (fun h => Or.inl ⟨40 + b, PT_c hb24, h⟩) (fun h => Or.inr (Nat.le_trans hsz h))
  obtain ⟨hP, hD⟩ := er_join hb24 hP hD hq hAq hk1 hB
  have hnx : nxt ad (va_up ad (40 + b) q) s.heap.size := nxt_up hD (hq.elim Or.inl (fun h => Or.inr (Nat.le_trans hsz h)))
  have e3 : va_up ad (40 + b) q 3 = ad 3 := va_up_ne _ _ (by omega)
  generalize va_up ad (40 + b) q = ad' at hP hD hnx e3
  have hl : lv_has ls 2 [(1, .int (nI b)), (0, .ref (ad' 3))] := by rw [e3]; exact lv_sub hl [0, 1] rfl
  have hA : ∀ q, s.heap.size ≤ q → na PT ad s.heap.size q := hA
  simp only [va_up_id] at hP
  generalize H1 = H at hP hS ⊢
  refine lv_eqi (y := bI true) (by rw [decide_eq_true hd1]) ?_
  rw [hd1] at hP
  refine lv_if_eq (tgt := 38) hx hb d_Lg_takeBlock_22 (by decide) (fun c22 => absurd c22 (show ¬ bI true = 0 by decide)) (fun c22 => ?_)
  have HC2 : ∀ t, t < 24 → va_up cn b 2048 t < 2 ^ 16 := fun t ht => by unfold va_up; split <;> first | omega | exact HC t ht
  have HG2 : ∀ t, t < 24 → ∀ j, j < va_up cn b 2048 t → va_up cg b (fil g0 2048) t j < 256 := fun t ht j hj => by
    by_cases h : t = b
    · subst h; rw [va_up_self] at hj ⊢; rw [fil_all hj]; omega
    · rw [va_up_ne _ _ h] at hj ⊢; exact HG t ht j hj
  refine lv_aload_n hx hb d_Lg_takeBlock_25 rfl (lv_at hl 1 rfl) ?_
  refine lv_aload_n hx hb d_Lg_takeBlock_26 rfl (lv_at hl 1 rfl) ?_
  refine nw_get (D := D) (ci := 3) (C := R_Lg) (T := T_Lg) (N := 7) hx hb hts in_Lg hown hK.k hP (i := 3) (by decide) tl_3 rfl 0 (by decide) (hts _ kf_Lg_11) rfl d_Lg_takeBlock_27 ?_
  refine lv_iload_n hx hb d_Lg_takeBlock_30 rfl (lv_at hl 0 rfl) ?_
  refine nw_aald hx hb hK.k hP (i := 4) (by decide) tl_4 4 rfl (C := R_Bk) (vp_in_nI (by omega) (by omega)) (r := ad' (10 + b)) (by rw [nI_clamp (by omega)]; exact if_pos (by omega)) d_Lg_takeBlock_31 ?_
  refine call_I (As := [.ref (ad' (10 + b))]) (rest := []) F hK (c_Lg_writeBeginning l D cy ad' b tp rw pt (va_up cn b 2048) (va_up er b (er b + 1)) rc re (va_up cg b (fil g0 2048)) tn ln bg (cutP w cp) cb pn dn op (cutW w cp) HC2 HG2 (by unfold cutP; split <;> omega) hcb hb24 (by rw [va_up_self]; omega) (fun j hj => by rw [va_up_self]; exact fil_all (by omega)) hbg) km_Lg_71 ki_Lg_writeBeginning ks_Lg_writeBeginning k0_Lg kc_Lg_writeBeginning kd_Lg_writeBeginning ⟨Nat.le_of_ble_eq_true rfl, Nat.le_of_ble_eq_true rfl⟩ (nw_recv hK.k hP (i := 3) (by decide) tl_3 rfl) (hP) (hD.1) hl.1 rfl (Nat.le_of_ble_eq_true rfl) d_Lg_takeBlock_32 ⟨(Nat.le_of_ble_eq_true rfl), (Nat.le_of_ble_eq_true rfl)⟩ hS (fun q h => h.elim (fun ⟨i, hi, e⟩ => by rw [e]; exact hD.2 i hi) (fun h => Or.inr (Nat.le_trans hS.1 h))) (fun H1 locs1 hP1 hk1 hS => ?_)
  have hP : nw D vcl PT ad' (tlC cy ad' tp tn dn rw ln op (bg + 1) (cutW (cutW w cp) (cutP w cp)) (cutP (cutW w cp) (cutP w cp)) cb (PB pt bg) 6 (va_up cn b 2048) (va_up cg b (G2 g0 pt bg (cutN (cutW w cp) (cutP w cp) cb 6))) (va_up er b (er b + 1)) rc re) H1 := by have z := hP1; simp only [va_up_self, bx_uu] at z; exact z
  generalize H1 = H at hP hS ⊢
  refine lv_eqi (y := bI true) (by rw [decide_eq_true hd2]) ?_
  rw [hd2] at hP
  refine lv_if_ne (tgt := 40) hx hb d_Lg_takeBlock_35 (by decide) (fun c35 => ?_) (fun c35 => absurd c35 (show bI true = 0 → False from fun z => absurd z (by decide)))
  have HG3 : ∀ t, t < 24 → ∀ j, j < va_up cn b 2048 t → va_up cg b (G2 g0 pt bg 6) t j < 256 := fun t ht j hj => by
    by_cases h : t = b
    · subst h; rw [va_up_self] at hj ⊢; exact upN_256 (n := 2048) (fun j hj => by rw [fil_all hj]; omega) (fun j hj => PB_lt j hj) j hj
    · rw [va_up_ne _ _ h] at hj ⊢; exact HG t ht j hj
  have hb2 := HC2 b hb24
  refine lv_aload_n hx hb d_Lg_takeBlock_40 rfl (lv_at hl 1 rfl) ?_
  refine nw_get (D := D) (ci := 3) (C := R_Lg) (T := T_Lg) (N := 7) hx hb hts in_Lg hown hK.k hP (i := 3) (by decide) tl_3 rfl 0 (by decide) (hts _ kf_Lg_11) rfl d_Lg_takeBlock_41 ?_
  refine lv_iload_n hx hb d_Lg_takeBlock_44 rfl (lv_at hl 0 rfl) ?_
  refine nw_aald hx hb hK.k hP (i := 4) (by decide) tl_4 4 rfl (C := R_Bk) (vp_in_nI (by omega) (by omega)) (r := ad' (10 + b)) (by rw [nI_clamp (by omega)]; exact if_pos (by omega)) d_Lg_takeBlock_45 ?_
  refine call_V (As := []) (rest := []) F hK (by have z := c_Bk_findRecords l D cy (fun i => ad' (q_bk b i)) (va_up cn b 2048 b) (va_up er b (er b + 1) b) (rc b) (re b) (va_up cg b (G2 g0 pt bg 6) b) hb2 (HG3 b hb24) 0 6 (scan_fresh (fun j h1 h2 => by rw [va_up_self]; unfold G2; rw [upN_ge (by omega)]; exact fil_all h2) (by rw [va_up_self]) 226); exact z) km_Lg_75 ki_Bk_findRecords ks_Bk_findRecords k0_Bk kc_Bk_findRecords kd_Bk_findRecords ⟨Nat.le_of_ble_eq_true rfl, Nat.le_of_ble_eq_true rfl⟩ (nw_recv hK.k hP (i := 10 + b) (PT_b (by omega)) (tl_b (by omega)) rfl) (nw_sub hP (q_bk b) (qs_bk hb24)) (qi_bk hb24 hD) hl.1 rfl (Nat.le_of_ble_eq_true rfl) d_Lg_takeBlock_46 ⟨(Nat.le_of_ble_eq_true rfl), (Nat.le_of_ble_eq_true rfl)⟩ hS (fun q h => h.elim (fun ⟨i, hi, e⟩ => by rw [e]; exact hD.2 _ (qp_bk hb24 i hi)) (fun h => Or.inr (Nat.le_trans hS.1 h))) (fun H1 locs1 hP1 hk1 hS => ?_)
  have hP : nw D vcl PT ad' (tlC cy ad' tp tn dn rw ln op (bg + 1) (cutW (cutW w cp) (cutP w cp)) (cutP (cutW w cp) (cutP w cp)) cb (PB pt bg) 6 (va_up cn b 2048) (va_up cg b (G2 g0 pt bg 6)) (va_up er b (er b + 1)) (va_up rc b 0) (va_up re b 6)) H1 := by have z := qj_bk hb24 hP hD hk1 hP1; simp only [va_up_id] at z; exact z
  generalize H1 = H at hP hS ⊢
  refine lv_aload_n hx hb d_Lg_takeBlock_49 rfl (lv_at hl 1 rfl) ?_
  refine lv_iload_n hx hb d_Lg_takeBlock_50 rfl (lv_at hl 0 rfl) ?_
  refine call_V (As := [.int (nI b)]) (rest := []) F hK (c_Lg_enter l D cy ad' b tp rw (PB pt bg) (va_up cn b 2048) (va_up er b (er b + 1)) (va_up rc b 0) (va_up re b 6) (va_up cg b (G2 g0 pt bg 6)) tn ln (bg + 1) (cutP (cutW w cp) (cutP w cp)) cb 6 dn op (cutW (cutW w cp) (cutP w cp)) HL HR HC2 HG3 hb24 hl24 HO hob) km_Lg_78 ki_Lg_enter ks_Lg_enter k0_Lg kc_Lg_enter kd_Lg_enter ⟨Nat.le_of_ble_eq_true rfl, Nat.le_of_ble_eq_true rfl⟩ (nw_recv hK.k hP (i := 3) (by decide) tl_3 rfl) (hP) (hD.1) hl.1 rfl (Nat.le_of_ble_eq_true rfl) d_Lg_takeBlock_51 ⟨(Nat.le_of_ble_eq_true rfl), (Nat.le_of_ble_eq_true rfl)⟩ hS (fun q h => h.elim (fun ⟨i, hi, e⟩ => by rw [e]; exact hD.2 i hi) (fun h => Or.inr (Nat.le_trans hS.1 h))) (fun H1 locs1 hP1 hk1 hS => ?_)
  have hP : nw D vcl PT ad' (tlC cy ad' tp tn dn (insR (orB (va_up cn b 2048) (va_up cg b (G2 g0 pt bg 6))) rw b ln) (ln + 1) op (bg + 1) (cutW (cutW w cp) (cutP w cp)) (cutP (cutW w cp) (cutP w cp)) cb (PB pt bg) 6 (va_up cn b 2048) (va_up cg b (G2 g0 pt bg 6)) (va_up er b (er b + 1)) (va_up rc b 0) (va_up re b 6)) H1 := hP1
  generalize H1 = H at hP hS ⊢
  refine lv_aload_n hx hb d_Lg_takeBlock_54 rfl (lv_at hl 1 rfl) ?_
  refine lv_iconst (v := bI true) hx hb d_Lg_takeBlock_55 (by decide) ?_
  refine nw_put (D := D) (ci := 3) (C := R_Lg) (T := T_Lg) (N := 7) hx hb hts in_Lg ty_Lg tk_Lg nm_Lg hown hK.k hP hD hS (i := 3) (by decide) tl_3 rfl 3 (by decide) (hts _ kf_Lg_26) rfl (bI_nar _) (bI_fit _) (Nat.le_of_ble_eq_true rfl) d_Lg_takeBlock_56 (fun H locs hP hS hz hq => ?_)
  have hP : nw D vcl PT ad' (tlC cy ad' tp tn dn (insR (orB (va_up cn b 2048) (va_up cg b (G2 g0 pt bg 6))) rw b ln) (ln + 1) true (bg + 1) (cutW (cutW w cp) (cutP w cp)) (cutP (cutW w cp) (cutP w cp)) cb (PB pt bg) 6 (va_up cn b 2048) (va_up cg b (G2 g0 pt bg 6)) (va_up er b (er b + 1)) (va_up rc b 0) (va_up re b 6)) H := nw_congr hP (tlu_op)
  refine lv_iconst (v := nI 1) hx hb d_Lg_takeBlock_59 (by decide) ?_
  exact W.zret hx hb hr rfl (fun t ht hW => ⟨⟨_, ad', rfl, ⟨rfl, hnx⟩, by show nw _ _ _ _ _ t.heap; rw [ht]; exact hP⟩, hS.F ht⟩) hS.2.2 d_Lg_takeBlock_60 hlk

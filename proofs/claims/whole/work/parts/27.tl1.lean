/-! TornLog: what refuses -/
set_option maxRecDepth 100000 in
set_option maxHeartbeats 4000000 in
theorem c_Tl_refuseOutside0 (l : Launch) (x a b : Int32) (h1 : ¬ x < a) (h2 : ¬ b < x) : mtSN l y_Tl_refuseOutside b_Tl_refuseOutside 3 { frames := 0, cells := 0, slots := 0, locals := 0 } [.int (x), .int (a), .int (b)] := by
  refine nm_ofW (cc := b_Tl_refuseOutside) (maxL := 3) (ret := none) (own := R_Tl) (by decide) (Nat.le_of_ble_eq_true rfl) rfl ?_
  intro p e s m below meth c ls F hr hlk hnm hv hl
  obtain ⟨hx, hb, hml, hown, hts⟩ := id F
  have hS : va_S (fun _ => False) s.heap s.heap [] := va_S.rf
  have hl : lv_has ls 3 [(0, .int (x)), (1, .int (a)), (2, .int (b))] := hl
  refine lv_iload_n hx hb d_Tl_refuseOutside_0 rfl (lv_at hl 0 rfl) ?_
  refine lv_iload_n hx hb d_Tl_refuseOutside_1 rfl (lv_at hl 1 rfl) ?_
  refine lv_icmp_lt (tgt := 10) hx hb d_Tl_refuseOutside_2 (by decide) (fun c2 => absurd c2 h1) (fun c2 => ?_)
  refine lv_iload_n hx hb d_Tl_refuseOutside_5 rfl (lv_at hl 0 rfl) ?_
  refine lv_iload_n hx hb d_Tl_refuseOutside_6 rfl (lv_at hl 2 rfl) ?_
  refine lv_icmp_le (tgt := 20) hx hb d_Tl_refuseOutside_7 (by decide) (fun c7 => ?_) (fun c7 => absurd (Int32.not_lt.mp h2) c7)
  exact end_N F hr hlk hS d_Tl_refuseOutside_20
set_option maxRecDepth 100000 in
set_option maxHeartbeats 4000000 in
theorem c_Tl_refuseOutside1 (l : Launch) (sa : Nat → Nat) (base : Nat) (hl0 : l.stackTraces = false) (x a b : Int32) (h : x < a ∨ b < x) : mtST l y_Tl_refuseOutside b_Tl_refuseOutside 3 { frames := 6, cells := 1, slots := 6, locals := 82 } [.int (x), .int (a), .int (b)] sa base xIA := by
  refine nx_ofW (cc := b_Tl_refuseOutside) (maxL := 3) (ret := none) (own := R_Tl) (by decide) (Nat.le_of_ble_eq_true rfl) rfl ?_
  intro p e s m below meth c ls F hr hlk hex hv hl
  obtain ⟨hx, hb, hml, hown, hts⟩ := id F
  have hX : KX sa base s := hv
  have hS : va_S (fun _ => False) s.heap s.heap [] := va_S.rf
  have hl : lv_has ls 3 [(0, .int (x)), (1, .int (a)), (2, .int (b))] := hl
  refine lv_iload_n hx hb d_Tl_refuseOutside_0 rfl (lv_at hl 0 rfl) ?_
  refine lv_iload_n hx hb d_Tl_refuseOutside_1 rfl (lv_at hl 1 rfl) ?_
  refine lv_icmp_lt (tgt := 10) hx hb d_Tl_refuseOutside_2 (by decide) (fun c2 => ?_) (fun c2 => ?_)
  · exact thr_IA F hl0 hX (List.mem_of_getElem? (i := 2) rfl) hS (fun _ h => h.elim) hl.1 d_Tl_refuseOutside_10 d_Tl_refuseOutside_13 d_Tl_refuseOutside_14 d_Tl_refuseOutside_16 d_Tl_refuseOutside_19 hex ⟨(Nat.le_of_ble_eq_true rfl), (Nat.le_of_ble_eq_true rfl)⟩ (Nat.le_of_ble_eq_true rfl) (Nat.le_of_ble_eq_true rfl) hlk (fun t _ hz hk => fin_T hS hz hk) hS.2.2 (Nat.le_of_ble_eq_true rfl) (Nat.le_of_ble_eq_true rfl)
  · refine lv_iload_n hx hb d_Tl_refuseOutside_5 rfl (lv_at hl 0 rfl) ?_
    refine lv_iload_n hx hb d_Tl_refuseOutside_6 rfl (lv_at hl 2 rfl) ?_
    refine lv_icmp_le (tgt := 20) hx hb d_Tl_refuseOutside_7 (by decide) (fun c7 => absurd c7 (fun z => absurd (h.resolve_left c2) (Int32.not_lt.mpr z))) (fun c7 => ?_)
    exact thr_IA F hl0 hX (List.mem_of_getElem? (i := 2) rfl) hS (fun _ h => h.elim) hl.1 d_Tl_refuseOutside_10 d_Tl_refuseOutside_13 d_Tl_refuseOutside_14 d_Tl_refuseOutside_16 d_Tl_refuseOutside_19 hex ⟨(Nat.le_of_ble_eq_true rfl), (Nat.le_of_ble_eq_true rfl)⟩ (Nat.le_of_ble_eq_true rfl) (Nat.le_of_ble_eq_true rfl) hlk (fun t _ hz hk => fin_T hS hz hk) hS.2.2 (Nat.le_of_ble_eq_true rfl) (Nat.le_of_ble_eq_true rfl)
set_option maxRecDepth 100000 in
set_option maxHeartbeats 4000000 in
theorem c_Tl_refuseNegative0 (l : Launch) (x : Int32) (h : ¬ x < 0) : mtSN l y_Tl_refuseNegative b_Tl_refuseNegative 1 { frames := 0, cells := 0, slots := 0, locals := 0 } [.int (x)] := by
  refine nm_ofW (cc := b_Tl_refuseNegative) (maxL := 1) (ret := none) (own := R_Tl) (by decide) (Nat.le_of_ble_eq_true rfl) rfl ?_
  intro p e s m below meth c ls F hr hlk hnm hv hl
  obtain ⟨hx, hb, hml, hown, hts⟩ := id F
  have hS : va_S (fun _ => False) s.heap s.heap [] := va_S.rf
  have hl : lv_has ls 1 [(0, .int (x))] := hl
  refine lv_iload_n hx hb d_Tl_refuseNegative_0 rfl (lv_at hl 0 rfl) ?_
  refine lv_if_ge (tgt := 14) hx hb d_Tl_refuseNegative_1 (by decide) (fun c1 => ?_) (fun c1 => absurd (Int32.not_lt.mp h) c1)
  exact end_N F hr hlk hS d_Tl_refuseNegative_14
set_option maxRecDepth 100000 in
set_option maxHeartbeats 4000000 in
theorem c_Tl_refuseNegative1 (l : Launch) (sa : Nat → Nat) (base : Nat) (hl0 : l.stackTraces = false) (x : Int32) (h : x < 0) : mtST l y_Tl_refuseNegative b_Tl_refuseNegative 1 { frames := 6, cells := 1, slots := 6, locals := 82 } [.int (x)] sa base xIA := by
  refine nx_ofW (cc := b_Tl_refuseNegative) (maxL := 1) (ret := none) (own := R_Tl) (by decide) (Nat.le_of_ble_eq_true rfl) rfl ?_
  intro p e s m below meth c ls F hr hlk hex hv hl
  obtain ⟨hx, hb, hml, hown, hts⟩ := id F
  have hX : KX sa base s := hv
  have hS : va_S (fun _ => False) s.heap s.heap [] := va_S.rf
  have hl : lv_has ls 1 [(0, .int (x))] := hl
  refine lv_iload_n hx hb d_Tl_refuseNegative_0 rfl (lv_at hl 0 rfl) ?_
  refine lv_if_ge (tgt := 14) hx hb d_Tl_refuseNegative_1 (by decide) (fun c1 => absurd c1 (fun z => absurd h (Int32.not_lt.mpr z))) (fun c1 => ?_)
  exact thr_IA F hl0 hX (List.mem_of_getElem? (i := 3) rfl) hS (fun _ h => h.elim) hl.1 d_Tl_refuseNegative_4 d_Tl_refuseNegative_7 d_Tl_refuseNegative_8 d_Tl_refuseNegative_10 d_Tl_refuseNegative_13 hex ⟨(Nat.le_of_ble_eq_true rfl), (Nat.le_of_ble_eq_true rfl)⟩ (Nat.le_of_ble_eq_true rfl) (Nat.le_of_ble_eq_true rfl) hlk (fun t _ hz hk => fin_T hS hz hk) hS.2.2 (Nat.le_of_ble_eq_true rfl) (Nat.le_of_ble_eq_true rfl)
set_option maxRecDepth 100000 in
set_option maxHeartbeats 4000000 in
theorem c_Tl_refuseWhenDown0 (l : Launch) (D : va_G) (cy : Nat → ClassId) (ad : Nat → Nat) (tp rw pt cn er rc re : Nat → Nat) (cg : Nat → Nat → Nat) (tn ln bg cp cb pn : Nat) (dn op w : Bool)  : mtN l y_Tl_refuseWhenDown b_Tl_refuseWhenDown 1 { frames := 0, cells := 0, slots := 0, locals := 0 } D cy [.ref (ad 0)] PT ad (tlC cy ad tp tn false rw ln op bg w cp cb pt pn cn cg er rc re) := by
  intro sz
  refine nm_ofW (cc := b_Tl_refuseWhenDown) (maxL := 1) (ret := none) (own := R_Tl) (by decide) (Nat.le_of_ble_eq_true rfl) rfl ?_
  intro p e s m below meth c ls F hr hlk hnm hv hl
  obtain ⟨hx, hb, hml, hown, hts⟩ := id F
  obtain ⟨rfl, hP, hK, hI⟩ := hv
  have hS : va_S (fun _ => False) s.heap s.heap [] := va_S.rf
  have hD : nd (na PT ad s.heap.size) PT ad := nd_self hI
  have hl : lv_has ls 1 [(0, .ref (ad 0))] := hl
  refine lv_aload_n hx hb d_Tl_refuseWhenDown_0 rfl (lv_at hl 0 rfl) ?_
  refine nw_get (D := D) (ci := 4) (C := R_Tl) (T := T_Tl) (N := 3) hx hb hts in_Tl hown hK.k hP (i := 0) (by decide) tl_0 rfl 2 (by decide) (hts _ kf_Tl_25) rfl d_Tl_refuseWhenDown_1 ?_
  refine lv_if_eq (tgt := 17) hx hb d_Tl_refuseWhenDown_4 (by decide) (fun c4 => ?_) (fun c4 => absurd (show bI false = 0 by decide) c4)
  exact end_N F hr hlk hS d_Tl_refuseWhenDown_17
set_option maxRecDepth 100000 in
set_option maxHeartbeats 4000000 in
theorem c_Tl_refuseWhenDown1 (l : Launch) (D : va_G) (cy : Nat → ClassId) (ad : Nat → Nat) (sa : Nat → Nat) (base : Nat) (hl0 : l.stackTraces = false) (tp rw pt cn er rc re : Nat → Nat) (cg : Nat → Nat → Nat) (tn ln bg cp cb pn : Nat) (dn op w : Bool) : mtT l y_Tl_refuseWhenDown b_Tl_refuseWhenDown 1 none { frames := 6, cells := 1, slots := 6, locals := 82 } D cy [.ref (ad 0)] PT ad (tlC cy ad tp tn true rw ln op bg w cp cb pt pn cn cg er rc re) sa base xIS := by
  intro sz
  refine nx_ofW (cc := b_Tl_refuseWhenDown) (maxL := 1) (ret := none) (own := R_Tl) (by decide) (Nat.le_of_ble_eq_true rfl) rfl ?_
  intro p e s m below meth c ls F hr hlk hex hv hl
  obtain ⟨hx, hb, hml, hown, hts⟩ := id F
  obtain ⟨rfl, ⟨hP, hK, hI⟩, hX, hlo⟩ := hv
  have hS : va_S (fun _ => False) s.heap s.heap [] := va_S.rf
  have hD : nd (na PT ad s.heap.size) PT ad := nd_self hI
  have hl : lv_has ls 1 [(0, .ref (ad 0))] := hl
  refine lv_aload_n hx hb d_Tl_refuseWhenDown_0 rfl (lv_at hl 0 rfl) ?_
  refine nw_get (D := D) (ci := 4) (C := R_Tl) (T := T_Tl) (N := 3) hx hb hts in_Tl hown hK.k hP (i := 0) (by decide) tl_0 rfl 2 (by decide) (hts _ kf_Tl_25) rfl d_Tl_refuseWhenDown_1 ?_
  refine lv_if_eq (tgt := 17) hx hb d_Tl_refuseWhenDown_4 (by decide) (fun c4 => absurd c4 (show ¬ bI true = 0 by decide)) (fun c4 => ?_)
  exact thr_IS F hl0 hX (List.mem_of_getElem? (i := 0) rfl) hS (fun _ h => h.elim) hl.1 d_Tl_refuseWhenDown_7 d_Tl_refuseWhenDown_10 d_Tl_refuseWhenDown_11 d_Tl_refuseWhenDown_13 d_Tl_refuseWhenDown_16 hex ⟨(Nat.le_of_ble_eq_true rfl), (Nat.le_of_ble_eq_true rfl)⟩ (Nat.le_of_ble_eq_true rfl) (Nat.le_of_ble_eq_true rfl) hlk (fun t _ hz hk => fin_T hS hz hk) hS.2.2 (Nat.le_of_ble_eq_true rfl) (Nat.le_of_ble_eq_true rfl)
set_option maxRecDepth 100000 in
set_option maxHeartbeats 4000000 in
theorem c_Tl_refuseBeyondTape0 (l : Launch) (D : va_G) (cy : Nat → ClassId) (ad : Nat → Nat) (tp rw pt cn er rc re : Nat → Nat) (cg : Nat → Nat → Nat) (tn ln bg cp cb pn : Nat) (dn op w : Bool) (n : Nat) (hn : tn + n ≤ 1060) : mtN l y_Tl_refuseBeyondTape b_Tl_refuseBeyondTape 2 { frames := 0, cells := 0, slots := 0, locals := 0 } D cy [.ref (ad 0), .int (nI n)] PT ad (tlC cy ad tp tn dn rw ln op bg w cp cb pt pn cn cg er rc re) := by
  intro sz
  refine nm_ofW (cc := b_Tl_refuseBeyondTape) (maxL := 2) (ret := none) (own := R_Tl) (by decide) (Nat.le_of_ble_eq_true rfl) rfl ?_
  intro p e s m below meth c ls F hr hlk hnm hv hl
  obtain ⟨hx, hb, hml, hown, hts⟩ := id F
  obtain ⟨rfl, hP, hK, hI⟩ := hv
  have hS : va_S (fun _ => False) s.heap s.heap [] := va_S.rf
  have hD : nd (na PT ad s.heap.size) PT ad := nd_self hI
  have hl : lv_has ls 2 [(0, .ref (ad 0)), (1, .int (nI n))] := hl
  refine lv_aload_n hx hb d_Tl_refuseBeyondTape_0 rfl (lv_at hl 0 rfl) ?_
  refine nw_get (D := D) (ci := 4) (C := R_Tl) (T := T_Tl) (N := 3) hx hb hts in_Tl hown hK.k hP (i := 0) (by decide) tl_0 rfl 0 (by decide) (hts _ kf_Tl_14) rfl d_Tl_refuseBeyondTape_1 ?_
  refine nw_getN (D := D) (ci := 1) (C := R_By) (T := T_By) (N := 2) hx hb hts in_By hown hK.k hP (i := 1) (by decide) tl_1 rfl 1 (by decide) (hK.nest 0 (by decide) rfl) rfl d_Tl_refuseBeyondTape_4 ?_
  refine lv_iload_n hx hb d_Tl_refuseBeyondTape_7 rfl (lv_at hl 1 rfl) ?_
  refine lv_iadd hx hb d_Tl_refuseBeyondTape_8 ?_
  refine lv_eqi (nI_add _ _) ?_
  refine lv_sipush (v := nI 1060) hx hb d_Tl_refuseBeyondTape_9 (by decide) ?_
  refine lv_icmp_le (tgt := 25) hx hb d_Tl_refuseBeyondTape_12 (by decide) (fun c12 => ?_) (fun c12 => absurd ((nI_leI (by omega) (by omega)).mpr (by omega)) c12)
  exact end_N F hr hlk hS d_Tl_refuseBeyondTape_25
set_option maxRecDepth 100000 in
set_option maxHeartbeats 4000000 in
theorem c_Tl_refuseBeyondTape1 (l : Launch) (D : va_G) (cy : Nat → ClassId) (ad : Nat → Nat) (sa : Nat → Nat) (base : Nat) (hl0 : l.stackTraces = false) (tp rw pt cn er rc re : Nat → Nat) (cg : Nat → Nat → Nat) (tn ln bg cp cb pn : Nat) (dn op w : Bool) (n : Nat) (hn : 1060 < tn + n) (hs : tn + n < 2 ^ 31) : mtT l y_Tl_refuseBeyondTape b_Tl_refuseBeyondTape 2 none { frames := 6, cells := 1, slots := 6, locals := 82 } D cy [.ref (ad 0), .int (nI n)] PT ad (tlC cy ad tp tn dn rw ln op bg w cp cb pt pn cn cg er rc re) sa base xIB := by
  intro sz
  refine nx_ofW (cc := b_Tl_refuseBeyondTape) (maxL := 2) (ret := none) (own := R_Tl) (by decide) (Nat.le_of_ble_eq_true rfl) rfl ?_
  intro p e s m below meth c ls F hr hlk hex hv hl
  obtain ⟨hx, hb, hml, hown, hts⟩ := id F
  obtain ⟨rfl, ⟨hP, hK, hI⟩, hX, hlo⟩ := hv
  have hS : va_S (fun _ => False) s.heap s.heap [] := va_S.rf
  have hD : nd (na PT ad s.heap.size) PT ad := nd_self hI
  have hl : lv_has ls 2 [(0, .ref (ad 0)), (1, .int (nI n))] := hl
  refine lv_aload_n hx hb d_Tl_refuseBeyondTape_0 rfl (lv_at hl 0 rfl) ?_
  refine nw_get (D := D) (ci := 4) (C := R_Tl) (T := T_Tl) (N := 3) hx hb hts in_Tl hown hK.k hP (i := 0) (by decide) tl_0 rfl 0 (by decide) (hts _ kf_Tl_14) rfl d_Tl_refuseBeyondTape_1 ?_
  refine nw_getN (D := D) (ci := 1) (C := R_By) (T := T_By) (N := 2) hx hb hts in_By hown hK.k hP (i := 1) (by decide) tl_1 rfl 1 (by decide) (hK.nest 0 (by decide) rfl) rfl d_Tl_refuseBeyondTape_4 ?_
  refine lv_iload_n hx hb d_Tl_refuseBeyondTape_7 rfl (lv_at hl 1 rfl) ?_
  refine lv_iadd hx hb d_Tl_refuseBeyondTape_8 ?_
  refine lv_eqi (nI_add _ _) ?_
  refine lv_sipush (v := nI 1060) hx hb d_Tl_refuseBeyondTape_9 (by decide) ?_
  refine lv_icmp_le (tgt := 25) hx hb d_Tl_refuseBeyondTape_12 (by decide) (fun c12 => absurd c12 (fun z => absurd ((nI_leI (by omega) (by omega)).mp z) (by omega))) (fun c12 => ?_)
  exact thr_IB F hl0 hX (List.mem_of_getElem? (i := 1) rfl) hS (fun _ h => h.elim) hl.1 d_Tl_refuseBeyondTape_15 d_Tl_refuseBeyondTape_18 d_Tl_refuseBeyondTape_19 d_Tl_refuseBeyondTape_21 d_Tl_refuseBeyondTape_24 hex ⟨(Nat.le_of_ble_eq_true rfl), (Nat.le_of_ble_eq_true rfl)⟩ (Nat.le_of_ble_eq_true rfl) (Nat.le_of_ble_eq_true rfl) hlk (fun t _ hz hk => fin_T hS hz hk) hS.2.2 (Nat.le_of_ble_eq_true rfl) (Nat.le_of_ble_eq_true rfl)
set_option maxRecDepth 100000 in
set_option maxHeartbeats 4000000 in
theorem c_Tl_addressOf0 (l : Launch) (D : va_G) (cy : Nat → ClassId) (ad : Nat → Nat) (tp rw pt cn er rc re : Nat → Nat) (cg : Nat → Nat → Nat) (tn ln bg cp cb pn : Nat) (dn op w : Bool) (i at_ : Nat) (hi : i < 2 ^ 31) (HL : ln ≤ 24) (HR : ∀ i, i < ln → rw i < 24) (HC : ∀ b, b < 24 → cn b < 2 ^ 16) (HG : ∀ b, b < 24 → ∀ j, j < cn b → cg b j < 256) (HQ : ∀ b, b < 24 → rc b < 2 ^ 16 ∧ re b < 2 ^ 16) (HP : ∀ t, t < ln → ∀ q, q < rc (rw t) → pla (fB cn cg (rw t)) q < 2048) (hat : at_ < 2 ^ 31) (hf : fdI cn cg rw (fdR rc rw ln 0 i) = nI at_) : mtR l y_Tl_addressOf b_Tl_addressOf 3 (some .int) { frames := 5, cells := 0, slots := 0, locals := 116 } D cy [.ref (ad 0), .int (nI i)] PT ad (tlC cy ad tp tn dn rw ln op bg w cp cb pt pn cn cg er rc re) (nI at_) := by
  intro sz
  refine nm_ofW (cc := b_Tl_addressOf) (maxL := 3) (ret := (some .int)) (own := R_Tl) (by decide) (Nat.le_of_ble_eq_true rfl) rfl ?_
  intro p e s m below meth c ls F hr hlk hnm hv hl
  obtain ⟨hx, hb, hml, hown, hts⟩ := id F
  obtain ⟨rfl, hP, hK, hI⟩ := hv
  have hD : nd (na PT ad s.heap.size) PT ad := nd_self hI
  have hS : va_S (fun _ => False) s.heap s.heap [] := va_S.rf
  have hl : lv_has ls 3 [(0, .ref (ad 0)), (1, .int (nI i))] := hl
  refine lv_aload_n hx hb d_Tl_addressOf_0 rfl (lv_at hl 0 rfl) ?_
  refine nw_get (D := D) (ci := 4) (C := R_Tl) (T := T_Tl) (N := 3) hx hb hts in_Tl hown hK.k hP (i := 0) (by decide) tl_0 rfl 1 (by decide) (hts _ kf_Tl_21) rfl d_Tl_addressOf_1 ?_
  refine lv_iload_n hx hb d_Tl_addressOf_4 rfl (lv_at hl 1 rfl) ?_
  refine call_R (As := [.int (nI i)]) (rest := []) F hK (c_Lg_find l D cy ad i tp rw pt cn er rc re cg tn ln bg cp cb pn dn op w HL HR HC HG HQ HP hi) km_Tl_132 ki_Lg_find ks_Lg_find k0_Lg kc_Lg_find kd_Lg_find ⟨Nat.le_of_ble_eq_true rfl, Nat.le_of_ble_eq_true rfl⟩ (nw_recv hK.k hP (i := 3) (by decide) tl_3 rfl) (hP) (hI) hl.1 rfl (Nat.le_of_ble_eq_true rfl) d_Tl_addressOf_5 ⟨(Nat.le_of_ble_eq_true rfl), (Nat.le_of_ble_eq_true rfl)⟩ hS (fun H1 locs1 hN hS => ?_)
  have hP := hN _ _ _ hP
  generalize H1 = H at hP hS ⊢
  refine lv_eqi (y := nI at_) hf ?_
  refine lv_istore_n (lv' := [(2, .int (nI at_)), (0, .ref (ad 0)), (1, .int (nI i))]) hx hb d_Tl_addressOf_8 rfl hl (by decide) rfl (fun ls hl => ?_)
  refine lv_iload_n hx hb d_Tl_addressOf_9 rfl (lv_at hl 0 rfl) ?_
  refine lv_if_ge (tgt := 23) hx hb d_Tl_addressOf_10 (by decide) (fun c10 => ?_) (fun c10 => absurd (nI_pos' (by omega)) c10)
  refine lv_iload_n hx hb d_Tl_addressOf_23 rfl (lv_at hl 0 rfl) ?_
  exact end_R F hr hlk rfl hS d_Tl_addressOf_24
set_option maxRecDepth 100000 in
set_option maxHeartbeats 4000000 in
theorem c_Tl_addressOf1 (l : Launch) (D : va_G) (cy : Nat → ClassId) (ad : Nat → Nat) (sa : Nat → Nat) (base : Nat) (hl0 : l.stackTraces = false) (tp rw pt cn er rc re : Nat → Nat) (cg : Nat → Nat → Nat) (tn ln bg cp cb pn : Nat) (dn op w : Bool) (i : Nat) (hi : i < 2 ^ 31) (HL : ln ≤ 24) (HR : ∀ i, i < ln → rw i < 24) (HC : ∀ b, b < 24 → cn b < 2 ^ 16) (HG : ∀ b, b < 24 → ∀ j, j < cn b → cg b j < 256) (HQ : ∀ b, b < 24 → rc b < 2 ^ 16 ∧ re b < 2 ^ 16) (HP : ∀ t, t < ln → ∀ q, q < rc (rw t) → pla (fB cn cg (rw t)) q < 2048) (hf : fdI cn cg rw (fdR rc rw ln 0 i) = -1) : mtT l y_Tl_addressOf b_Tl_addressOf 3 (some .int) { frames := 6, cells := 1, slots := 6, locals := 116 } D cy [.ref (ad 0), .int (nI i)] PT ad (tlC cy ad tp tn dn rw ln op bg w cp cb pt pn cn cg er rc re) sa base xNE := by
  intro sz
  refine nx_ofW (cc := b_Tl_addressOf) (maxL := 3) (ret := (some .int)) (own := R_Tl) (by decide) (Nat.le_of_ble_eq_true rfl) rfl ?_
  intro p e s m below meth c ls F hr hlk hex hv hl
  obtain ⟨hx, hb, hml, hown, hts⟩ := id F
  obtain ⟨rfl, ⟨hP, hK, hI⟩, hX, hlo⟩ := hv
  have hS : va_S (fun _ => False) s.heap s.heap [] := va_S.rf
  have hD : nd (na PT ad s.heap.size) PT ad := nd_self hI
  have hl : lv_has ls 3 [(0, .ref (ad 0)), (1, .int (nI i))] := hl
  refine lv_aload_n hx hb d_Tl_addressOf_0 rfl (lv_at hl 0 rfl) ?_
  refine nw_get (D := D) (ci := 4) (C := R_Tl) (T := T_Tl) (N := 3) hx hb hts in_Tl hown hK.k hP (i := 0) (by decide) tl_0 rfl 1 (by decide) (hts _ kf_Tl_21) rfl d_Tl_addressOf_1 ?_
  refine lv_iload_n hx hb d_Tl_addressOf_4 rfl (lv_at hl 1 rfl) ?_
  refine call_R (As := [.int (nI i)]) (rest := []) F hK (c_Lg_find l D cy ad i tp rw pt cn er rc re cg tn ln bg cp cb pn dn op w HL HR HC HG HQ HP hi) km_Tl_132 ki_Lg_find ks_Lg_find k0_Lg kc_Lg_find kd_Lg_find ⟨Nat.le_of_ble_eq_true rfl, Nat.le_of_ble_eq_true rfl⟩ (nw_recv hK.k hP (i := 3) (by decide) tl_3 rfl) (hP) (hI) hl.1 rfl (Nat.le_of_ble_eq_true rfl) d_Tl_addressOf_5 ⟨(Nat.le_of_ble_eq_true rfl), (Nat.le_of_ble_eq_true rfl)⟩ hS (fun H1 locs1 hN hS => ?_)
  have hP := hN _ _ _ hP
  generalize H1 = H at hP hS ⊢
  refine lv_eqi (y := -1) hf ?_
  refine lv_istore_n (lv' := [(2, .int (-1)), (0, .ref (ad 0)), (1, .int (nI i))]) hx hb d_Tl_addressOf_8 rfl hl (by decide) rfl (fun ls hl => ?_)
  refine lv_iload_n hx hb d_Tl_addressOf_9 rfl (lv_at hl 0 rfl) ?_
  refine lv_if_ge (tgt := 23) hx hb d_Tl_addressOf_10 (by decide) (fun c10 => absurd c10 (show ¬ (0 : Int32) ≤ -1 by decide)) (fun c10 => ?_)
  exact thr_NE F hl0 hX (List.mem_of_getElem? (i := 7) rfl) hS (fun _ h => h.elim) hl.1 d_Tl_addressOf_13 d_Tl_addressOf_16 d_Tl_addressOf_17 d_Tl_addressOf_19 d_Tl_addressOf_22 hex ⟨(Nat.le_of_ble_eq_true rfl), (Nat.le_of_ble_eq_true rfl)⟩ (Nat.le_of_ble_eq_true rfl) (Nat.le_of_ble_eq_true rfl) hlk (fun t _ hz hk => fin_T hS hz hk) hS.2.2 (Nat.le_of_ble_eq_true rfl) (Nat.le_of_ble_eq_true rfl)
set_option maxRecDepth 100000 in
set_option maxHeartbeats 4000000 in
theorem c_Tl_addressOf2 (l : Launch) (D : va_G) (cy : Nat → ClassId) (ad : Nat → Nat) (sa : Nat → Nat) (base : Nat) (hl0 : l.stackTraces = false) (tp rw pt cn er rc re : Nat → Nat) (cg : Nat → Nat → Nat) (tn ln bg cp cb pn : Nat) (dn op w : Bool) (x : Int32) (hx0 : x < 0) : mtT l y_Tl_addressOf b_Tl_addressOf 3 (some .int) { frames := 6, cells := 1, slots := 6, locals := 116 } D cy [.ref (ad 0), .int (x)] PT ad (tlC cy ad tp tn dn rw ln op bg w cp cb pt pn cn cg er rc re) sa base xNE := by
  intro sz
  refine nx_ofW (cc := b_Tl_addressOf) (maxL := 3) (ret := (some .int)) (own := R_Tl) (by decide) (Nat.le_of_ble_eq_true rfl) rfl ?_
  intro p e s m below meth c ls F hr hlk hex hv hl
  obtain ⟨hx, hb, hml, hown, hts⟩ := id F
  obtain ⟨rfl, ⟨hP, hK, hI⟩, hX, hlo⟩ := hv
  have hS : va_S (fun _ => False) s.heap s.heap [] := va_S.rf
  have hD : nd (na PT ad s.heap.size) PT ad := nd_self hI
  have hl : lv_has ls 3 [(0, .ref (ad 0)), (1, .int (x))] := hl
  refine lv_aload_n hx hb d_Tl_addressOf_0 rfl (lv_at hl 0 rfl) ?_
  refine nw_get (D := D) (ci := 4) (C := R_Tl) (T := T_Tl) (N := 3) hx hb hts in_Tl hown hK.k hP (i := 0) (by decide) tl_0 rfl 1 (by decide) (hts _ kf_Tl_21) rfl d_Tl_addressOf_1 ?_
  refine lv_iload_n hx hb d_Tl_addressOf_4 rfl (lv_at hl 1 rfl) ?_
  refine call_R (As := [.int (x)]) (rest := []) F hK (c_Lg_findN l D cy ad x tp rw pt cn er rc re cg tn ln bg cp cb pn dn op w hx0) km_Tl_132 ki_Lg_find ks_Lg_find k0_Lg kc_Lg_find kd_Lg_find ⟨Nat.le_of_ble_eq_true rfl, Nat.le_of_ble_eq_true rfl⟩ (nw_recv hK.k hP (i := 3) (by decide) tl_3 rfl) (hP) (hI) hl.1 rfl (Nat.le_of_ble_eq_true rfl) d_Tl_addressOf_5 ⟨(Nat.le_of_ble_eq_true rfl), (Nat.le_of_ble_eq_true rfl)⟩ hS (fun H1 locs1 hN hS => ?_)
  have hP := hN _ _ _ hP
  generalize H1 = H at hP hS ⊢
  refine lv_istore_n (lv' := [(2, .int (-1)), (0, .ref (ad 0)), (1, .int (x))]) hx hb d_Tl_addressOf_8 rfl hl (by decide) rfl (fun ls hl => ?_)
  refine lv_iload_n hx hb d_Tl_addressOf_9 rfl (lv_at hl 0 rfl) ?_
  refine lv_if_ge (tgt := 23) hx hb d_Tl_addressOf_10 (by decide) (fun c10 => absurd c10 (show ¬ (0 : Int32) ≤ -1 by decide)) (fun c10 => ?_)
  exact thr_NE F hl0 hX (List.mem_of_getElem? (i := 7) rfl) hS (fun _ h => h.elim) hl.1 d_Tl_addressOf_13 d_Tl_addressOf_16 d_Tl_addressOf_17 d_Tl_addressOf_19 d_Tl_addressOf_22 hex ⟨(Nat.le_of_ble_eq_true rfl), (Nat.le_of_ble_eq_true rfl)⟩ (Nat.le_of_ble_eq_true rfl) (Nat.le_of_ble_eq_true rfl) hlk (fun t _ hz hk => fin_T hS hz hk) hS.2.2 (Nat.le_of_ble_eq_true rfl) (Nat.le_of_ble_eq_true rfl)

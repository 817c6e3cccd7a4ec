/-! TornLog: feed, fill, end, retire, cut, mount, count -/
abbrev RT : Room := { frames := 7, cells := 2, slots := 2054, locals := 170 }
/-- five ints on the tape -/
def fd5 (g : Nat → Nat) (k : Nat) (a b c d e : Int32) : Nat → Nat := up4 (up4 (up4 (up4 (up4 g k a) (k + 4) b) (k + 8) c) (k + 12) d) (k + 16) e
set_option maxRecDepth 100000 in
set_option maxHeartbeats 4000000 in
theorem c_Tl_feed1 (l : Launch) (D : va_G) (cy : Nat → ClassId) (ad : Nat → Nat) (sa : Nat → Nat) (base : Nat) (hl0 : l.stackTraces = false) (tp rw pt cn er rc re : Nat → Nat) (cg : Nat → Nat → Nat) (tn ln bg cp cb pn : Nat) (dn op w : Bool) (xa xb xc xd xe : Int32) : mtU l y_Tl_feed b_Tl_feed 6 (some .int) RT D cy [.ref (ad 0), .int (xa), .int (xb), .int (xc), .int (xd), .int (xe)] ad (tlC cy ad tp tn true rw ln op bg w cp cb pt pn cn cg er rc re) (fun ad' => tlC cy ad' tp tn true rw ln op bg w cp cb pt pn cn cg er rc re) sa base xIS := by
  intro sz
  refine nx_ofW (cc := b_Tl_feed) (maxL := 6) (ret := (some .int)) (own := R_Tl) (by decide) (Nat.le_of_ble_eq_true rfl) rfl ?_
  intro p e s m below meth c ls F hr hlk hex hv hl
  obtain ⟨hx, hb, hml, hown, hts⟩ := id F
  obtain ⟨rfl, ⟨hP, hK, hI⟩, hX, hlo⟩ := hv
  have hD : nd (na PT ad s.heap.size) PT ad := nd_self hI
  have hA : ∀ q, s.heap.size ≤ q → na PT ad s.heap.size q := fun q h => Or.inr h
  have hS : va_S (na PT ad s.heap.size) s.heap s.heap [] := va_S.rf
  have hl : lv_has ls 6 [(0, .ref (ad 0)), (1, .int (xa)), (2, .int (xb)), (3, .int (xc)), (4, .int (xd)), (5, .int (xe))] := hl
  refine lv_aload_n hx hb d_Tl_feed_0 rfl (lv_at hl 0 rfl) ?_
  exact esc_V (As := []) (rest := []) F hK hX (c_Tl_refuseWhenDown1 l D cy ad sa base hl0 tp rw pt cn er rc re cg tn ln bg cp cb pn false op w) km_Tl_29 ki_Tl_refuseWhenDown ks_Tl_refuseWhenDown k0_Tl kc_Tl_refuseWhenDown kd_Tl_refuseWhenDown ⟨(Nat.le_of_ble_eq_true rfl), (Nat.le_of_ble_eq_true rfl)⟩ (nw_recv hK.k hP (i := 0) (by decide) tl_0 rfl) (hP) (hI) (hlo) hl.1 rfl (Nat.le_of_ble_eq_true rfl) d_Tl_feed_1 ⟨(Nat.le_of_ble_eq_true rfl), (Nat.le_of_ble_eq_true rfl)⟩ hS (na_lo hX hlo) hex hlk (fun t _ hz hk => fin_U hP (nxt_rf hD) hS hz hk) (fun _ h => h) (Nat.le_of_ble_eq_true rfl) (Nat.le_of_ble_eq_true rfl)
set_option maxRecDepth 100000 in
set_option maxHeartbeats 4000000 in
theorem c_Tl_feed2 (l : Launch) (D : va_G) (cy : Nat → ClassId) (ad : Nat → Nat) (sa : Nat → Nat) (base : Nat) (hl0 : l.stackTraces = false) (tp rw pt cn er rc re : Nat → Nat) (cg : Nat → Nat → Nat) (tn ln bg cp cb pn : Nat) (dn op w : Bool) (xa xb xc xd xe : Int32) (h : 1060 < tn + 20) (htn : tn ≤ 1060) : mtU l y_Tl_feed b_Tl_feed 6 (some .int) RT D cy [.ref (ad 0), .int (xa), .int (xb), .int (xc), .int (xd), .int (xe)] ad (tlC cy ad tp tn false rw ln op bg w cp cb pt pn cn cg er rc re) (fun ad' => tlC cy ad' tp tn false rw ln op bg w cp cb pt pn cn cg er rc re) sa base xIB := by
  intro sz
  refine nx_ofW (cc := b_Tl_feed) (maxL := 6) (ret := (some .int)) (own := R_Tl) (by decide) (Nat.le_of_ble_eq_true rfl) rfl ?_
  intro p e s m below meth c ls F hr hlk hex hv hl
  obtain ⟨hx, hb, hml, hown, hts⟩ := id F
  obtain ⟨rfl, ⟨hP, hK, hI⟩, hX, hlo⟩ := hv
  have hD : nd (na PT ad s.heap.size) PT ad := nd_self hI
  have hA : ∀ q, s.heap.size ≤ q → na PT ad s.heap.size q := fun q h => Or.inr h
  have hS : va_S (na PT ad s.heap.size) s.heap s.heap [] := va_S.rf
  have hl : lv_has ls 6 [(0, .ref (ad 0)), (1, .int (xa)), (2, .int (xb)), (3, .int (xc)), (4, .int (xd)), (5, .int (xe))] := hl
  refine lv_aload_n hx hb d_Tl_feed_0 rfl (lv_at hl 0 rfl) ?_
  refine call_N (As := []) (rest := []) F hK (c_Tl_refuseWhenDown0 l D cy ad tp rw pt cn er rc re cg tn ln bg cp cb pn false op w) km_Tl_29 ki_Tl_refuseWhenDown ks_Tl_refuseWhenDown k0_Tl kc_Tl_refuseWhenDown kd_Tl_refuseWhenDown ⟨(Nat.le_of_ble_eq_true rfl), (Nat.le_of_ble_eq_true rfl)⟩ (nw_recv hK.k hP (i := 0) (by decide) tl_0 rfl) (hP) (hI) hl.1 rfl (Nat.le_of_ble_eq_true rfl) d_Tl_feed_1 ⟨(Nat.le_of_ble_eq_true rfl), (Nat.le_of_ble_eq_true rfl)⟩ hS (fun H1 locs1 hN hS => ?_)
  have hP := hN _ _ _ hP
  generalize H1 = H at hP hS ⊢
  refine lv_aload_n hx hb d_Tl_feed_4 rfl (lv_at hl 0 rfl) ?_
  refine lv_bipush (v := nI 20) hx hb d_Tl_feed_5 (by decide) ?_
  exact esc_V (As := [.int (nI 20)]) (rest := []) F hK hX (c_Tl_refuseBeyondTape1 l D cy ad sa base hl0 tp rw pt cn er rc re cg tn ln bg cp cb pn false op w 20 h (by omega)) km_Tl_32 ki_Tl_refuseBeyondTape ks_Tl_refuseBeyondTape k0_Tl kc_Tl_refuseBeyondTape kd_Tl_refuseBeyondTape ⟨(Nat.le_of_ble_eq_true rfl), (Nat.le_of_ble_eq_true rfl)⟩ (nw_recv hK.k hP (i := 0) (by decide) tl_0 rfl) (hP) (hI) (hlo) hl.1 rfl (Nat.le_of_ble_eq_true rfl) d_Tl_feed_7 ⟨(Nat.le_of_ble_eq_true rfl), (Nat.le_of_ble_eq_true rfl)⟩ hS (na_lo hX hlo) hex hlk (fun t _ hz hk => fin_U hP (nxt_rf hD) hS hz hk) (fun _ h => h) (Nat.le_of_ble_eq_true rfl) (Nat.le_of_ble_eq_true rfl)
set_option maxRecDepth 100000 in
set_option maxHeartbeats 4000000 in
theorem c_Tl_feed0 (l : Launch) (D : va_G) (cy : Nat → ClassId) (ad : Nat → Nat) (tp rw pt cn er rc re : Nat → Nat) (cg : Nat → Nat → Nat) (tn ln bg cp cb pn : Nat) (dn op w : Bool) (xa xb xc xd xe : Int32) (h : tn + 20 ≤ 1060) : mtX l y_Tl_feed b_Tl_feed 6 (some .int) RT D cy [.ref (ad 0), .int (xa), .int (xb), .int (xc), .int (xd), .int (xe)] ad (tlC cy ad tp tn false rw ln op bg w cp cb pt pn cn cg er rc re) (fun ad' => tlC cy ad' (fd5 tp tn xa xb xc xd xe) (tn + 20) false rw ln op bg w cp cb pt pn cn cg er rc re) (nI (tn + 20)) := by
  intro sz
  refine nm_ofW (cc := b_Tl_feed) (maxL := 6) (ret := (some .int)) (own := R_Tl) (by decide) (Nat.le_of_ble_eq_true rfl) rfl ?_
  intro p e s m below meth c ls F hr hlk hnm hv hl
  obtain ⟨hx, hb, hml, hown, hts⟩ := id F
  obtain ⟨rfl, hP, hK, hI⟩ := hv
  have hD : nd (na PT ad s.heap.size) PT ad := nd_self hI
  have hA : ∀ q, s.heap.size ≤ q → na PT ad s.heap.size q := fun q h => Or.inr h
  have hS : va_S (na PT ad s.heap.size) s.heap s.heap [] := va_S.rf
  have hl : lv_has ls 6 [(0, .ref (ad 0)), (1, .int (xa)), (2, .int (xb)), (3, .int (xc)), (4, .int (xd)), (5, .int (xe))] := hl
  refine lv_aload_n hx hb d_Tl_feed_0 rfl (lv_at hl 0 rfl) ?_
  refine call_N (As := []) (rest := []) F hK (c_Tl_refuseWhenDown0 l D cy ad tp rw pt cn er rc re cg tn ln bg cp cb pn false op w) km_Tl_29 ki_Tl_refuseWhenDown ks_Tl_refuseWhenDown k0_Tl kc_Tl_refuseWhenDown kd_Tl_refuseWhenDown ⟨(Nat.le_of_ble_eq_true rfl), (Nat.le_of_ble_eq_true rfl)⟩ (nw_recv hK.k hP (i := 0) (by decide) tl_0 rfl) (hP) (hI) hl.1 rfl (Nat.le_of_ble_eq_true rfl) d_Tl_feed_1 ⟨(Nat.le_of_ble_eq_true rfl), (Nat.le_of_ble_eq_true rfl)⟩ hS (fun H1 locs1 hN hS => ?_)
  have hP := hN _ _ _ hP
  generalize H1 = H at hP hS ⊢
  refine lv_aload_n hx hb d_Tl_feed_4 rfl (lv_at hl 0 rfl) ?_
  refine lv_bipush (v := nI 20) hx hb d_Tl_feed_5 (by decide) ?_
  refine call_N (As := [.int (nI 20)]) (rest := []) F hK (c_Tl_refuseBeyondTape0 l D cy ad tp rw pt cn er rc re cg tn ln bg cp cb pn false op w 20 h) km_Tl_32 ki_Tl_refuseBeyondTape ks_Tl_refuseBeyondTape k0_Tl kc_Tl_refuseBeyondTape kd_Tl_refuseBeyondTape ⟨(Nat.le_of_ble_eq_true rfl), (Nat.le_of_ble_eq_true rfl)⟩ (nw_recv hK.k hP (i := 0) (by decide) tl_0 rfl) (hP) (hI) hl.1 rfl (Nat.le_of_ble_eq_true rfl) d_Tl_feed_7 ⟨(Nat.le_of_ble_eq_true rfl), (Nat.le_of_ble_eq_true rfl)⟩ hS (fun H1 locs1 hN hS => ?_)
  have hP := hN _ _ _ hP
  generalize H1 = H at hP hS ⊢
  refine lv_aload_n hx hb d_Tl_feed_10 rfl (lv_at hl 0 rfl) ?_
  refine nw_get (D := D) (ci := 4) (C := R_Tl) (T := T_Tl) (N := 3) hx hb hts in_Tl hown hK.k hP (i := 0) (by decide) tl_0 rfl 0 (by decide) (hts _ kf_Tl_14) rfl d_Tl_feed_11 ?_
  refine lv_iload_n hx hb d_Tl_feed_14 rfl (lv_at hl 1 rfl) ?_
  refine call_V (As := [.int (xa)]) (rest := []) F hK (c_By_addInt l D cy (fun i => ad (q_tp i)) 1060 (tn) (tp) xa (by omega) (by omega)) km_Tl_35 ki_By_addInt ks_By_addInt k0_By kc_By_addInt kd_By_addInt ⟨Nat.le_of_ble_eq_true rfl, Nat.le_of_ble_eq_true rfl⟩ (nw_recv hK.k hP (i := 1) (by decide) tl_1 rfl) (nw_sub hP q_tp qs_tp) (qi_tp hD) hl.1 rfl (Nat.le_of_ble_eq_true rfl) d_Tl_feed_15 ⟨(Nat.le_of_ble_eq_true rfl), (Nat.le_of_ble_eq_true rfl)⟩ hS (na_sub hD hS hA q_tp qp_tp) (fun H1 locs1 hP1 hk1 hS => ?_)
  have hP : nw D vcl PT ad (tlC cy ad (up4 tp (tn) xa) (tn + 4) false rw ln op bg w cp cb pt pn cn cg er rc re) H1 := qj_tp hP hD hk1 hP1
  generalize H1 = H at hP hS ⊢
  refine lv_aload_n hx hb d_Tl_feed_18 rfl (lv_at hl 0 rfl) ?_
  refine nw_get (D := D) (ci := 4) (C := R_Tl) (T := T_Tl) (N := 3) hx hb hts in_Tl hown hK.k hP (i := 0) (by decide) tl_0 rfl 0 (by decide) (hts _ kf_Tl_14) rfl d_Tl_feed_19 ?_
  refine lv_iload_n hx hb d_Tl_feed_22 rfl (lv_at hl 2 rfl) ?_
  refine call_V (As := [.int (xb)]) (rest := []) F hK (c_By_addInt l D cy (fun i => ad (q_tp i)) 1060 (tn + 4) (up4 tp (tn) xa) xb (by omega) (by omega)) km_Tl_35 ki_By_addInt ks_By_addInt k0_By kc_By_addInt kd_By_addInt ⟨Nat.le_of_ble_eq_true rfl, Nat.le_of_ble_eq_true rfl⟩ (nw_recv hK.k hP (i := 1) (by decide) tl_1 rfl) (nw_sub hP q_tp qs_tp) (qi_tp hD) hl.1 rfl (Nat.le_of_ble_eq_true rfl) d_Tl_feed_23 ⟨(Nat.le_of_ble_eq_true rfl), (Nat.le_of_ble_eq_true rfl)⟩ hS (na_sub hD hS hA q_tp qp_tp) (fun H1 locs1 hP1 hk1 hS => ?_)
  have hP : nw D vcl PT ad (tlC cy ad (up4 (up4 tp (tn) xa) (tn + 4) xb) (tn + 8) false rw ln op bg w cp cb pt pn cn cg er rc re) H1 := qj_tp hP hD hk1 hP1
  generalize H1 = H at hP hS ⊢
  refine lv_aload_n hx hb d_Tl_feed_26 rfl (lv_at hl 0 rfl) ?_
  refine nw_get (D := D) (ci := 4) (C := R_Tl) (T := T_Tl) (N := 3) hx hb hts in_Tl hown hK.k hP (i := 0) (by decide) tl_0 rfl 0 (by decide) (hts _ kf_Tl_14) rfl d_Tl_feed_27 ?_
  refine lv_iload_n hx hb d_Tl_feed_30 rfl (lv_at hl 3 rfl) ?_
  refine call_V (As := [.int (xc)]) (rest := []) F hK (c_By_addInt l D cy (fun i => ad (q_tp i)) 1060 (tn + 8) (up4 (up4 tp (tn) xa) (tn + 4) xb) xc (by omega) (by omega)) km_Tl_35 ki_By_addInt ks_By_addInt k0_By kc_By_addInt kd_By_addInt ⟨Nat.le_of_ble_eq_true rfl, Nat.le_of_ble_eq_true rfl⟩ (nw_recv hK.k hP (i := 1) (by decide) tl_1 rfl) (nw_sub hP q_tp qs_tp) (qi_tp hD) hl.1 rfl (Nat.le_of_ble_eq_true rfl) d_Tl_feed_31 ⟨(Nat.le_of_ble_eq_true rfl), (Nat.le_of_ble_eq_true rfl)⟩ hS (na_sub hD hS hA q_tp qp_tp) (fun H1 locs1 hP1 hk1 hS => ?_)
  have hP : nw D vcl PT ad (tlC cy ad (up4 (up4 (up4 tp (tn) xa) (tn + 4) xb) (tn + 8) xc) (tn + 12) false rw ln op bg w cp cb pt pn cn cg er rc re) H1 := qj_tp hP hD hk1 hP1
  generalize H1 = H at hP hS ⊢
  refine lv_aload_n hx hb d_Tl_feed_34 rfl (lv_at hl 0 rfl) ?_
  refine nw_get (D := D) (ci := 4) (C := R_Tl) (T := T_Tl) (N := 3) hx hb hts in_Tl hown hK.k hP (i := 0) (by decide) tl_0 rfl 0 (by decide) (hts _ kf_Tl_14) rfl d_Tl_feed_35 ?_
  refine lv_iload hx hb d_Tl_feed_38 (lv_at hl 4 rfl) ?_
  refine call_V (As := [.int (xd)]) (rest := []) F hK (c_By_addInt l D cy (fun i => ad (q_tp i)) 1060 (tn + 12) (up4 (up4 (up4 tp (tn) xa) (tn + 4) xb) (tn + 8) xc) xd (by omega) (by omega)) km_Tl_35 ki_By_addInt ks_By_addInt k0_By kc_By_addInt kd_By_addInt ⟨Nat.le_of_ble_eq_true rfl, Nat.le_of_ble_eq_true rfl⟩ (nw_recv hK.k hP (i := 1) (by decide) tl_1 rfl) (nw_sub hP q_tp qs_tp) (qi_tp hD) hl.1 rfl (Nat.le_of_ble_eq_true rfl) d_Tl_feed_40 ⟨(Nat.le_of_ble_eq_true rfl), (Nat.le_of_ble_eq_true rfl)⟩ hS (na_sub hD hS hA q_tp qp_tp) (fun H1 locs1 hP1 hk1 hS => ?_)
  have hP : nw D vcl PT ad (tlC cy ad (up4 (up4 (up4 (up4 tp (tn) xa) (tn + 4) xb) (tn + 8) xc) (tn + 12) xd) (tn + 16) false rw ln op bg w cp cb pt pn cn cg er rc re) H1 := qj_tp hP hD hk1 hP1
  generalize H1 = H at hP hS ⊢
  refine lv_aload_n hx hb d_Tl_feed_43 rfl (lv_at hl 0 rfl) ?_
  refine nw_get (D := D) (ci := 4) (C := R_Tl) (T := T_Tl) (N := 3) hx hb hts in_Tl hown hK.k hP (i := 0) (by decide) tl_0 rfl 0 (by decide) (hts _ kf_Tl_14) rfl d_Tl_feed_44 ?_
  refine lv_iload hx hb d_Tl_feed_47 (lv_at hl 5 rfl) ?_
  refine call_V (As := [.int (xe)]) (rest := []) F hK (c_By_addInt l D cy (fun i => ad (q_tp i)) 1060 (tn + 16) (up4 (up4 (up4 (up4 tp (tn) xa) (tn + 4) xb) (tn + 8) xc) (tn + 12) xd) xe (by omega) (by omega)) km_Tl_35 ki_By_addInt ks_By_addInt k0_By kc_By_addInt kd_By_addInt ⟨Nat.le_of_ble_eq_true rfl, Nat.le_of_ble_eq_true rfl⟩ (nw_recv hK.k hP (i := 1) (by decide) tl_1 rfl) (nw_sub hP q_tp qs_tp) (qi_tp hD) hl.1 rfl (Nat.le_of_ble_eq_true rfl) d_Tl_feed_49 ⟨(Nat.le_of_ble_eq_true rfl), (Nat.le_of_ble_eq_true rfl)⟩ hS (na_sub hD hS hA q_tp qp_tp) (fun H1 locs1 hP1 hk1 hS => ?_)
  have hP : nw D vcl PT ad (tlC cy ad (up4 (up4 (up4 (up4 (up4 tp (tn) xa) (tn + 4) xb) (tn + 8) xc) (tn + 12) xd) (tn + 16) xe) (tn + 20) false rw ln op bg w cp cb pt pn cn cg er rc re) H1 := qj_tp hP hD hk1 hP1
  generalize H1 = H at hP hS ⊢
  refine lv_aload_n hx hb d_Tl_feed_52 rfl (lv_at hl 0 rfl) ?_
  refine nw_get (D := D) (ci := 4) (C := R_Tl) (T := T_Tl) (N := 3) hx hb hts in_Tl hown hK.k hP (i := 0) (by decide) tl_0 rfl 0 (by decide) (hts _ kf_Tl_14) rfl d_Tl_feed_53 ?_
  refine nw_getN (D := D) (ci := 1) (C := R_By) (T := T_By) (N := 2) hx hb hts in_By hown hK.k hP (i := 1) (by decide) tl_1 rfl 1 (by decide) (hK.nest 0 (by decide) rfl) rfl d_Tl_feed_56 ?_
  refine W.widen (k := 2) (n := 2054) (Nat.le_of_ble_eq_true rfl) (Nat.le_of_ble_eq_true rfl) ?_
  exact W.zret hx hb hr rfl (fun t ht hW => ⟨⟨_, ad, rfl, ⟨rfl, nxt_rf hD⟩, by show nw _ _ _ _ _ t.heap; rw [ht]; exact hP⟩, hS.F ht⟩) hS.2.2 d_Tl_feed_59 hlk
set_option maxRecDepth 100000 in
set_option maxHeartbeats 4000000 in
theorem c_Tl_fill1 (l : Launch) (D : va_G) (cy : Nat → ClassId) (ad : Nat → Nat) (sa : Nat → Nat) (base : Nat) (hl0 : l.stackTraces = false) (tp rw pt cn er rc re : Nat → Nat) (cg : Nat → Nat → Nat) (tn ln bg cp cb pn : Nat) (dn op w : Bool) (x y : Int32) (h : x < nI 0 ∨ nI 255 < x) : mtU l y_Tl_fill b_Tl_fill 4 (some .int) RT D cy [.ref (ad 0), .int (x), .int (y)] ad (tlC cy ad tp tn dn rw ln op bg w cp cb pt pn cn cg er rc re) (fun ad' => tlC cy ad' tp tn dn rw ln op bg w cp cb pt pn cn cg er rc re) sa base xIA := by
  intro sz
  refine nx_ofW (cc := b_Tl_fill) (maxL := 4) (ret := (some .int)) (own := R_Tl) (by decide) (Nat.le_of_ble_eq_true rfl) rfl ?_
  intro p e s m below meth c ls F hr hlk hex hv hl
  obtain ⟨hx, hb, hml, hown, hts⟩ := id F
  obtain ⟨rfl, ⟨hP, hK, hI⟩, hX, hlo⟩ := hv
  have hD : nd (na PT ad s.heap.size) PT ad := nd_self hI
  have hA : ∀ q, s.heap.size ≤ q → na PT ad s.heap.size q := fun q h => Or.inr h
  have hS : va_S (na PT ad s.heap.size) s.heap s.heap [] := va_S.rf
  have hl : lv_has ls 4 [(0, .ref (ad 0)), (1, .int (x)), (2, .int (y))] := hl
  refine lv_iload_n hx hb d_Tl_fill_0 rfl (lv_at hl 1 rfl) ?_
  refine lv_iconst (v := nI 0) hx hb d_Tl_fill_1 (by decide) ?_
  refine lv_sipush (v := nI 255) hx hb d_Tl_fill_2 (by decide) ?_
  exact esc_S (As := [.int (x), .int (nI 0), .int (nI 255)]) (rest := []) F hX (c_Tl_refuseOutside1 l sa base hl0 x (nI 0) (nI 255) h) km_Tl_42 kt_Tl_refuseOutside k0_Tl kc_Tl_refuseOutside kd_Tl_refuseOutside ⟨(Nat.le_of_ble_eq_true rfl), (Nat.le_of_ble_eq_true rfl)⟩ hl.1 rfl (Nat.le_of_ble_eq_true rfl) d_Tl_fill_5 ⟨(Nat.le_of_ble_eq_true rfl), (Nat.le_of_ble_eq_true rfl)⟩ hS (na_lo hX hlo) hex hlk (fun t _ hz hk => fin_U hP (nxt_rf hD) hS hz hk) (fun _ h => h) (Nat.le_of_ble_eq_true rfl) (Nat.le_of_ble_eq_true rfl)
set_option maxRecDepth 100000 in
set_option maxHeartbeats 4000000 in
theorem c_Tl_fill2 (l : Launch) (D : va_G) (cy : Nat → ClassId) (ad : Nat → Nat) (sa : Nat → Nat) (base : Nat) (hl0 : l.stackTraces = false) (tp rw pt cn er rc re : Nat → Nat) (cg : Nat → Nat → Nat) (tn ln bg cp cb pn : Nat) (dn op w : Bool) (x y : Int32) (h1 : ¬ x < nI 0) (h2 : ¬ nI 255 < x) (h : y < nI 1 ∨ nI 1000 < y) : mtU l y_Tl_fill b_Tl_fill 4 (some .int) RT D cy [.ref (ad 0), .int (x), .int (y)] ad (tlC cy ad tp tn dn rw ln op bg w cp cb pt pn cn cg er rc re) (fun ad' => tlC cy ad' tp tn dn rw ln op bg w cp cb pt pn cn cg er rc re) sa base xIA := by
  intro sz
  refine nx_ofW (cc := b_Tl_fill) (maxL := 4) (ret := (some .int)) (own := R_Tl) (by decide) (Nat.le_of_ble_eq_true rfl) rfl ?_
  intro p e s m below meth c ls F hr hlk hex hv hl
  obtain ⟨hx, hb, hml, hown, hts⟩ := id F
  obtain ⟨rfl, ⟨hP, hK, hI⟩, hX, hlo⟩ := hv
  have hD : nd (na PT ad s.heap.size) PT ad := nd_self hI
  have hA : ∀ q, s.heap.size ≤ q → na PT ad s.heap.size q := fun q h => Or.inr h
  have hS : va_S (na PT ad s.heap.size) s.heap s.heap [] := va_S.rf
  have hl : lv_has ls 4 [(0, .ref (ad 0)), (1, .int (x)), (2, .int (y))] := hl
  refine lv_iload_n hx hb d_Tl_fill_0 rfl (lv_at hl 1 rfl) ?_
  refine lv_iconst (v := nI 0) hx hb d_Tl_fill_1 (by decide) ?_
  refine lv_sipush (v := nI 255) hx hb d_Tl_fill_2 (by decide) ?_
  refine call_SN (As := [.int (x), .int (nI 0), .int (nI 255)]) (rest := []) F (c_Tl_refuseOutside0 l x (nI 0) (nI 255) h1 h2) km_Tl_42 kt_Tl_refuseOutside k0_Tl kc_Tl_refuseOutside kd_Tl_refuseOutside ⟨(Nat.le_of_ble_eq_true rfl), (Nat.le_of_ble_eq_true rfl)⟩ hl.1 rfl (Nat.le_of_ble_eq_true rfl) d_Tl_fill_5 ⟨(Nat.le_of_ble_eq_true rfl), (Nat.le_of_ble_eq_true rfl)⟩ hS (fun H1 locs1 hN hS => ?_)
  have hP := hN _ _ _ _ hP
  generalize H1 = H at hP hS ⊢
  refine lv_iload_n hx hb d_Tl_fill_8 rfl (lv_at hl 2 rfl) ?_
  refine lv_iconst (v := nI 1) hx hb d_Tl_fill_9 (by decide) ?_
  refine lv_sipush (v := nI 1000) hx hb d_Tl_fill_10 (by decide) ?_
  exact esc_S (As := [.int (y), .int (nI 1), .int (nI 1000)]) (rest := []) F hX (c_Tl_refuseOutside1 l sa base hl0 y (nI 1) (nI 1000) h) km_Tl_42 kt_Tl_refuseOutside k0_Tl kc_Tl_refuseOutside kd_Tl_refuseOutside ⟨(Nat.le_of_ble_eq_true rfl), (Nat.le_of_ble_eq_true rfl)⟩ hl.1 rfl (Nat.le_of_ble_eq_true rfl) d_Tl_fill_13 ⟨(Nat.le_of_ble_eq_true rfl), (Nat.le_of_ble_eq_true rfl)⟩ hS (na_lo hX hlo) hex hlk (fun t _ hz hk => fin_U hP (nxt_rf hD) hS hz hk) (fun _ h => h) (Nat.le_of_ble_eq_true rfl) (Nat.le_of_ble_eq_true rfl)
set_option maxRecDepth 100000 in
set_option maxHeartbeats 4000000 in
theorem c_Tl_fill3 (l : Launch) (D : va_G) (cy : Nat → ClassId) (ad : Nat → Nat) (sa : Nat → Nat) (base : Nat) (hl0 : l.stackTraces = false) (tp rw pt cn er rc re : Nat → Nat) (cg : Nat → Nat → Nat) (tn ln bg cp cb pn : Nat) (dn op w : Bool) (x y : Int32) (h1 : ¬ x < nI 0) (h2 : ¬ nI 255 < x) (h3 : ¬ y < nI 1) (h4 : ¬ nI 1000 < y) : mtU l y_Tl_fill b_Tl_fill 4 (some .int) RT D cy [.ref (ad 0), .int (x), .int (y)] ad (tlC cy ad tp tn true rw ln op bg w cp cb pt pn cn cg er rc re) (fun ad' => tlC cy ad' tp tn true rw ln op bg w cp cb pt pn cn cg er rc re) sa base xIS := by
  intro sz
  refine nx_ofW (cc := b_Tl_fill) (maxL := 4) (ret := (some .int)) (own := R_Tl) (by decide) (Nat.le_of_ble_eq_true rfl) rfl ?_
  intro p e s m below meth c ls F hr hlk hex hv hl
  obtain ⟨hx, hb, hml, hown, hts⟩ := id F
  obtain ⟨rfl, ⟨hP, hK, hI⟩, hX, hlo⟩ := hv
  have hD : nd (na PT ad s.heap.size) PT ad := nd_self hI
  have hA : ∀ q, s.heap.size ≤ q → na PT ad s.heap.size q := fun q h => Or.inr h
  have hS : va_S (na PT ad s.heap.size) s.heap s.heap [] := va_S.rf
  have hl : lv_has ls 4 [(0, .ref (ad 0)), (1, .int (x)), (2, .int (y))] := hl
  refine lv_iload_n hx hb d_Tl_fill_0 rfl (lv_at hl 1 rfl) ?_
  refine lv_iconst (v := nI 0) hx hb d_Tl_fill_1 (by decide) ?_
  refine lv_sipush (v := nI 255) hx hb d_Tl_fill_2 (by decide) ?_
  refine call_SN (As := [.int (x), .int (nI 0), .int (nI 255)]) (rest := []) F (c_Tl_refuseOutside0 l x (nI 0) (nI 255) h1 h2) km_Tl_42 kt_Tl_refuseOutside k0_Tl kc_Tl_refuseOutside kd_Tl_refuseOutside ⟨(Nat.le_of_ble_eq_true rfl), (Nat.le_of_ble_eq_true rfl)⟩ hl.1 rfl (Nat.le_of_ble_eq_true rfl) d_Tl_fill_5 ⟨(Nat.le_of_ble_eq_true rfl), (Nat.le_of_ble_eq_true rfl)⟩ hS (fun H1 locs1 hN hS => ?_)
  have hP := hN _ _ _ _ hP
  generalize H1 = H at hP hS ⊢
  refine lv_iload_n hx hb d_Tl_fill_8 rfl (lv_at hl 2 rfl) ?_
  refine lv_iconst (v := nI 1) hx hb d_Tl_fill_9 (by decide) ?_
  refine lv_sipush (v := nI 1000) hx hb d_Tl_fill_10 (by decide) ?_
  refine call_SN (As := [.int (y), .int (nI 1), .int (nI 1000)]) (rest := []) F (c_Tl_refuseOutside0 l y (nI 1) (nI 1000) h3 h4) km_Tl_42 kt_Tl_refuseOutside k0_Tl kc_Tl_refuseOutside kd_Tl_refuseOutside ⟨(Nat.le_of_ble_eq_true rfl), (Nat.le_of_ble_eq_true rfl)⟩ hl.1 rfl (Nat.le_of_ble_eq_true rfl) d_Tl_fill_13 ⟨(Nat.le_of_ble_eq_true rfl), (Nat.le_of_ble_eq_true rfl)⟩ hS (fun H1 locs1 hN hS => ?_)
  have hP := hN _ _ _ _ hP
  generalize H1 = H at hP hS ⊢
  refine lv_aload_n hx hb d_Tl_fill_16 rfl (lv_at hl 0 rfl) ?_
  exact esc_V (As := []) (rest := []) F hK hX (c_Tl_refuseWhenDown1 l D cy ad sa base hl0 tp rw pt cn er rc re cg tn ln bg cp cb pn false op w) km_Tl_29 ki_Tl_refuseWhenDown ks_Tl_refuseWhenDown k0_Tl kc_Tl_refuseWhenDown kd_Tl_refuseWhenDown ⟨(Nat.le_of_ble_eq_true rfl), (Nat.le_of_ble_eq_true rfl)⟩ (nw_recv hK.k hP (i := 0) (by decide) tl_0 rfl) (hP) (hI) (hlo) hl.1 rfl (Nat.le_of_ble_eq_true rfl) d_Tl_fill_17 ⟨(Nat.le_of_ble_eq_true rfl), (Nat.le_of_ble_eq_true rfl)⟩ hS (na_lo hX hlo) hex hlk (fun t _ hz hk => fin_U hP (nxt_rf hD) hS hz hk) (fun _ h => h) (Nat.le_of_ble_eq_true rfl) (Nat.le_of_ble_eq_true rfl)
set_option maxRecDepth 100000 in
set_option maxHeartbeats 4000000 in
theorem c_Tl_fill4 (l : Launch) (D : va_G) (cy : Nat → ClassId) (ad : Nat → Nat) (sa : Nat → Nat) (base : Nat) (hl0 : l.stackTraces = false) (tp rw pt cn er rc re : Nat → Nat) (cg : Nat → Nat → Nat) (tn ln bg cp cb pn : Nat) (dn op w : Bool) (v n : Nat) (hv : v ≤ 255) (hn1 : 1 ≤ n) (hn2 : n ≤ 1000) (h : 1060 < tn + n) (htn : tn ≤ 1060) : mtU l y_Tl_fill b_Tl_fill 4 (some .int) RT D cy [.ref (ad 0), .int (nI v), .int (nI n)] ad (tlC cy ad tp tn false rw ln op bg w cp cb pt pn cn cg er rc re) (fun ad' => tlC cy ad' tp tn false rw ln op bg w cp cb pt pn cn cg er rc re) sa base xIB := by
  intro sz
  refine nx_ofW (cc := b_Tl_fill) (maxL := 4) (ret := (some .int)) (own := R_Tl) (by decide) (Nat.le_of_ble_eq_true rfl) rfl ?_
  intro p e s m below meth c ls F hr hlk hex hv hl
  obtain ⟨hx, hb, hml, hown, hts⟩ := id F
  obtain ⟨rfl, ⟨hP, hK, hI⟩, hX, hlo⟩ := hv
  have hD : nd (na PT ad s.heap.size) PT ad := nd_self hI
  have hA : ∀ q, s.heap.size ≤ q → na PT ad s.heap.size q := fun q h => Or.inr h
  have hS : va_S (na PT ad s.heap.size) s.heap s.heap [] := va_S.rf
  have hl : lv_has ls 4 [(0, .ref (ad 0)), (1, .int (nI v)), (2, .int (nI n))] := hl
  refine lv_iload_n hx hb d_Tl_fill_0 rfl (lv_at hl 1 rfl) ?_
  refine lv_iconst (v := nI 0) hx hb d_Tl_fill_1 (by decide) ?_
  refine lv_sipush (v := nI 255) hx hb d_Tl_fill_2 (by decide) ?_
  refine call_SN (As := [.int (nI v), .int (nI 0), .int (nI 255)]) (rest := []) F (c_Tl_refuseOutside0 l (nI v) (nI 0) (nI 255) (mt (nI_ltI (by omega) (by omega)).mp (by omega)) (mt (nI_ltI (by omega) (by omega)).mp (by omega))) km_Tl_42 kt_Tl_refuseOutside k0_Tl kc_Tl_refuseOutside kd_Tl_refuseOutside ⟨(Nat.le_of_ble_eq_true rfl), (Nat.le_of_ble_eq_true rfl)⟩ hl.1 rfl (Nat.le_of_ble_eq_true rfl) d_Tl_fill_5 ⟨(Nat.le_of_ble_eq_true rfl), (Nat.le_of_ble_eq_true rfl)⟩ hS (fun H1 locs1 hN hS => ?_)
  have hP := hN _ _ _ _ hP
  generalize H1 = H at hP hS ⊢
  refine lv_iload_n hx hb d_Tl_fill_8 rfl (lv_at hl 2 rfl) ?_
  refine lv_iconst (v := nI 1) hx hb d_Tl_fill_9 (by decide) ?_
  refine lv_sipush (v := nI 1000) hx hb d_Tl_fill_10 (by decide) ?_
  refine call_SN (As := [.int (nI n), .int (nI 1), .int (nI 1000)]) (rest := []) F (c_Tl_refuseOutside0 l (nI n) (nI 1) (nI 1000) (mt (nI_ltI (by omega) (by omega)).mp (by omega)) (mt (nI_ltI (by omega) (by omega)).mp (by omega))) km_Tl_42 kt_Tl_refuseOutside k0_Tl kc_Tl_refuseOutside kd_Tl_refuseOutside ⟨(Nat.le_of_ble_eq_true rfl), (Nat.le_of_ble_eq_true rfl)⟩ hl.1 rfl (Nat.le_of_ble_eq_true rfl) d_Tl_fill_13 ⟨(Nat.le_of_ble_eq_true rfl), (Nat.le_of_ble_eq_true rfl)⟩ hS (fun H1 locs1 hN hS => ?_)
  have hP := hN _ _ _ _ hP
  generalize H1 = H at hP hS ⊢
  refine lv_aload_n hx hb d_Tl_fill_16 rfl (lv_at hl 0 rfl) ?_
  refine call_N (As := []) (rest := []) F hK (c_Tl_refuseWhenDown0 l D cy ad tp rw pt cn er rc re cg tn ln bg cp cb pn false op w) km_Tl_29 ki_Tl_refuseWhenDown ks_Tl_refuseWhenDown k0_Tl kc_Tl_refuseWhenDown kd_Tl_refuseWhenDown ⟨(Nat.le_of_ble_eq_true rfl), (Nat.le_of_ble_eq_true rfl)⟩ (nw_recv hK.k hP (i := 0) (by decide) tl_0 rfl) (hP) (hI) hl.1 rfl (Nat.le_of_ble_eq_true rfl) d_Tl_fill_17 ⟨(Nat.le_of_ble_eq_true rfl), (Nat.le_of_ble_eq_true rfl)⟩ hS (fun H1 locs1 hN hS => ?_)
  have hP := hN _ _ _ hP
  generalize H1 = H at hP hS ⊢
  refine lv_aload_n hx hb d_Tl_fill_20 rfl (lv_at hl 0 rfl) ?_
  refine lv_iload_n hx hb d_Tl_fill_21 rfl (lv_at hl 2 rfl) ?_
  exact esc_V (As := [.int (nI n)]) (rest := []) F hK hX (c_Tl_refuseBeyondTape1 l D cy ad sa base hl0 tp rw pt cn er rc re cg tn ln bg cp cb pn false op w n h (by omega)) km_Tl_32 ki_Tl_refuseBeyondTape ks_Tl_refuseBeyondTape k0_Tl kc_Tl_refuseBeyondTape kd_Tl_refuseBeyondTape ⟨(Nat.le_of_ble_eq_true rfl), (Nat.le_of_ble_eq_true rfl)⟩ (nw_recv hK.k hP (i := 0) (by decide) tl_0 rfl) (hP) (hI) (hlo) hl.1 rfl (Nat.le_of_ble_eq_true rfl) d_Tl_fill_22 ⟨(Nat.le_of_ble_eq_true rfl), (Nat.le_of_ble_eq_true rfl)⟩ hS (na_lo hX hlo) hex hlk (fun t _ hz hk => fin_U hP (nxt_rf hD) hS hz hk) (fun _ h => h) (Nat.le_of_ble_eq_true rfl) (Nat.le_of_ble_eq_true rfl)
set_option maxRecDepth 100000 in
set_option maxHeartbeats 4000000 in
theorem c_Tl_fill0 (l : Launch) (D : va_G) (cy : Nat → ClassId) (ad : Nat → Nat) (tp rw pt cn er rc re : Nat → Nat) (cg : Nat → Nat → Nat) (tn ln bg cp cb pn : Nat) (dn op w : Bool) (v n : Nat) (hv : v ≤ 255) (hn1 : 1 ≤ n) (hn2 : n ≤ 1000) (h : tn + n ≤ 1060) : mtX l y_Tl_fill b_Tl_fill 4 (some .int) RT D cy [.ref (ad 0), .int (nI v), .int (nI n)] ad (tlC cy ad tp tn false rw ln op bg w cp cb pt pn cn cg er rc re) (fun ad' => tlC cy ad' (upN tp tn (fun _ => v) n) (tn + n) false rw ln op bg w cp cb pt pn cn cg er rc re) (nI (tn + n)) := by
  intro sz
  refine nm_ofW (cc := b_Tl_fill) (maxL := 4) (ret := (some .int)) (own := R_Tl) (by decide) (Nat.le_of_ble_eq_true rfl) rfl ?_
  intro p e s m below meth c ls F hr hlk hnm hv hl
  obtain ⟨hx, hb, hml, hown, hts⟩ := id F
  obtain ⟨rfl, hP, hK, hI⟩ := hv
  have hD : nd (na PT ad s.heap.size) PT ad := nd_self hI
  have hA : ∀ q, s.heap.size ≤ q → na PT ad s.heap.size q := fun q h => Or.inr h
  have hS : va_S (na PT ad s.heap.size) s.heap s.heap [] := va_S.rf
  have hl : lv_has ls 4 [(0, .ref (ad 0)), (1, .int (nI v)), (2, .int (nI n))] := hl
  refine lv_iload_n hx hb d_Tl_fill_0 rfl (lv_at hl 1 rfl) ?_
  refine lv_iconst (v := nI 0) hx hb d_Tl_fill_1 (by decide) ?_
  refine lv_sipush (v := nI 255) hx hb d_Tl_fill_2 (by decide) ?_
  refine call_SN (As := [.int (nI v), .int (nI 0), .int (nI 255)]) (rest := []) F (c_Tl_refuseOutside0 l (nI v) (nI 0) (nI 255) (mt (nI_ltI (by omega) (by omega)).mp (by omega)) (mt (nI_ltI (by omega) (by omega)).mp (by omega))) km_Tl_42 kt_Tl_refuseOutside k0_Tl kc_Tl_refuseOutside kd_Tl_refuseOutside ⟨(Nat.le_of_ble_eq_true rfl), (Nat.le_of_ble_eq_true rfl)⟩ hl.1 rfl (Nat.le_of_ble_eq_true rfl) d_Tl_fill_5 ⟨(Nat.le_of_ble_eq_true rfl), (Nat.le_of_ble_eq_true rfl)⟩ hS (fun H1 locs1 hN hS => ?_)
  have hP := hN _ _ _ _ hP
  generalize H1 = H at hP hS ⊢
  refine lv_iload_n hx hb d_Tl_fill_8 rfl (lv_at hl 2 rfl) ?_
  refine lv_iconst (v := nI 1) hx hb d_Tl_fill_9 (by decide) ?_
  refine lv_sipush (v := nI 1000) hx hb d_Tl_fill_10 (by decide) ?_
  refine call_SN (As := [.int (nI n), .int (nI 1), .int (nI 1000)]) (rest := []) F (c_Tl_refuseOutside0 l (nI n) (nI 1) (nI 1000) (mt (nI_ltI (by omega) (by omega)).mp (by omega)) (mt (nI_ltI (by omega) (by omega)).mp (by omega))) km_Tl_42 kt_Tl_refuseOutside k0_Tl kc_Tl_refuseOutside kd_Tl_refuseOutside ⟨(Nat.le_of_ble_eq_true rfl), (Nat.le_of_ble_eq_true rfl)⟩ hl.1 rfl (Nat.le_of_ble_eq_true rfl) d_Tl_fill_13 ⟨(Nat.le_of_ble_eq_true rfl), (Nat.le_of_ble_eq_true rfl)⟩ hS (fun H1 locs1 hN hS => ?_)
  have hP := hN _ _ _ _ hP
  generalize H1 = H at hP hS ⊢
  refine lv_aload_n hx hb d_Tl_fill_16 rfl (lv_at hl 0 rfl) ?_
  refine call_N (As := []) (rest := []) F hK (c_Tl_refuseWhenDown0 l D cy ad tp rw pt cn er rc re cg tn ln bg cp cb pn false op w) km_Tl_29 ki_Tl_refuseWhenDown ks_Tl_refuseWhenDown k0_Tl kc_Tl_refuseWhenDown kd_Tl_refuseWhenDown ⟨(Nat.le_of_ble_eq_true rfl), (Nat.le_of_ble_eq_true rfl)⟩ (nw_recv hK.k hP (i := 0) (by decide) tl_0 rfl) (hP) (hI) hl.1 rfl (Nat.le_of_ble_eq_true rfl) d_Tl_fill_17 ⟨(Nat.le_of_ble_eq_true rfl), (Nat.le_of_ble_eq_true rfl)⟩ hS (fun H1 locs1 hN hS => ?_)
  have hP := hN _ _ _ hP
  generalize H1 = H at hP hS ⊢
  refine lv_aload_n hx hb d_Tl_fill_20 rfl (lv_at hl 0 rfl) ?_
  refine lv_iload_n hx hb d_Tl_fill_21 rfl (lv_at hl 2 rfl) ?_
  refine call_N (As := [.int (nI n)]) (rest := []) F hK (c_Tl_refuseBeyondTape0 l D cy ad tp rw pt cn er rc re cg tn ln bg cp cb pn false op w n h) km_Tl_32 ki_Tl_refuseBeyondTape ks_Tl_refuseBeyondTape k0_Tl kc_Tl_refuseBeyondTape kd_Tl_refuseBeyondTape ⟨(Nat.le_of_ble_eq_true rfl), (Nat.le_of_ble_eq_true rfl)⟩ (nw_recv hK.k hP (i := 0) (by decide) tl_0 rfl) (hP) (hI) hl.1 rfl (Nat.le_of_ble_eq_true rfl) d_Tl_fill_22 ⟨(Nat.le_of_ble_eq_true rfl), (Nat.le_of_ble_eq_true rfl)⟩ hS (fun H1 locs1 hN hS => ?_)
  have hP := hN _ _ _ hP
  generalize H1 = H at hP hS ⊢
  refine lv_iconst (v := nI 0) hx hb d_Tl_fill_25 (by decide) ?_
  refine lv_istore_n (lv' := [(3, .int (nI 0)), (0, .ref (ad 0)), (1, .int (nI v)), (2, .int (nI n))]) hx hb d_Tl_fill_26 rfl hl (by decide) rfl (fun ls hl => ?_)
  have hP : nw D vcl PT ad (tlC cy ad (upN tp tn (fun _ => v) 0) (tn + 0) false rw ln op bg w cp cb pt pn cn cg er rc re) H := hP
  have loop : ∀ (j i : Nat), i + j = n → ∀ (H : Heap) (locs : List Loc) (ls : Array Slot), nw D vcl PT ad (tlC cy ad (upN tp tn (fun _ => v) i) (tn + i) false rw ln op bg w cp cb pt pn cn cg er rc re) H → va_S (na PT ad s.heap.size) s.heap H locs → lv_has ls 4 [(3, .int (nI i)), (0, .ref (ad 0)), (1, .int (nI v)), (2, .int (nI n))] → W p l e RT s m [.ref (ad 0), .int (nI v), .int (nI n)].toArray below meth c H locs 0 0 (MQ below (va_Qi (fun r' (ad' : Nat → Nat) => r' = nI (tn + n) ∧ nxt ad ad' s.heap.size) (fun ad' t => nw D vcl PT ad' (tlC cy ad' (upN tp tn (fun _ => v) n) (tn + n) false rw ln op bg w cp cb pt pn cn cg er rc re) t.heap) (na PT ad s.heap.size)) [.ref (ad 0), .int (nI v), .int (nI n)].toArray s 2 2054 (na PT ad s.heap.size)) (F0 m 27 ls []) := by
    intro j
    induction j with
    | zero =>
      intro i hi H locs ls hP hS hl
      obtain rfl : i = n := by omega
      refine lv_iload_n hx hb d_Tl_fill_27 rfl (lv_at hl 0 rfl) ?_
      refine lv_iload_n hx hb d_Tl_fill_28 rfl (lv_at hl 3 rfl) ?_
      refine lv_icmp_ge (tgt := 46) hx hb d_Tl_fill_29 (by decide) (fun c29 => ?_) (fun c29 => absurd ((nI_leI (by omega) (by omega)).mpr (by omega)) c29)
      refine lv_aload_n hx hb d_Tl_fill_46 rfl (lv_at hl 1 rfl) ?_
      refine nw_get (D := D) (ci := 4) (C := R_Tl) (T := T_Tl) (N := 3) hx hb hts in_Tl hown hK.k hP (i := 0) (by decide) tl_0 rfl 0 (by decide) (hts _ kf_Tl_14) rfl d_Tl_fill_47 ?_
      refine nw_getN (D := D) (ci := 1) (C := R_By) (T := T_By) (N := 2) hx hb hts in_By hown hK.k hP (i := 1) (by decide) tl_1 rfl 1 (by decide) (hK.nest 0 (by decide) rfl) rfl d_Tl_fill_50 ?_
      refine W.widen (k := 2) (n := 2054) (Nat.le_of_ble_eq_true rfl) (Nat.le_of_ble_eq_true rfl) ?_
      exact W.zret hx hb hr rfl (fun t ht hW => ⟨⟨_, ad, rfl, ⟨rfl, nxt_rf hD⟩, by show nw _ _ _ _ _ t.heap; rw [ht]; exact hP⟩, hS.F ht⟩) hS.2.2 d_Tl_fill_53 hlk
    | succ j ih =>
      intro i hi H locs ls hP hS hl
      refine lv_iload_n hx hb d_Tl_fill_27 rfl (lv_at hl 0 rfl) ?_
      refine lv_iload_n hx hb d_Tl_fill_28 rfl (lv_at hl 3 rfl) ?_
      refine lv_icmp_ge (tgt := 46) hx hb d_Tl_fill_29 (by decide) (fun c29 => absurd c29 (fun z => absurd ((nI_leI (by omega) (by omega)).mp z) (by omega))) (fun c29 => ?_)
      refine lv_aload_n hx hb d_Tl_fill_32 rfl (lv_at hl 1 rfl) ?_
      refine nw_get (D := D) (ci := 4) (C := R_Tl) (T := T_Tl) (N := 3) hx hb hts in_Tl hown hK.k hP (i := 0) (by decide) tl_0 rfl 0 (by decide) (hts _ kf_Tl_14) rfl d_Tl_fill_33 ?_
      refine lv_iload_n hx hb d_Tl_fill_36 rfl (lv_at hl 2 rfl) ?_
      refine call_V (As := [.int (nI v)]) (rest := []) F hK (by have z := c_By_add l D cy (fun i => ad (q_tp i)) 1060 (tn + i) (upN tp tn (fun _ => v) i) (nI v) (by omega) (by omega); rw [show bof (nI v) = v by rw [bof_nI (by omega)]; omega] at z; exact z) km_Tl_46 ki_By_add ks_By_add k0_By kc_By_add kd_By_add ⟨Nat.le_of_ble_eq_true rfl, Nat.le_of_ble_eq_true rfl⟩ (nw_recv hK.k hP (i := 1) (by decide) tl_1 rfl) (nw_sub hP q_tp qs_tp) (qi_tp hD) hl.1 rfl (Nat.le_of_ble_eq_true rfl) d_Tl_fill_37 ⟨(Nat.le_of_ble_eq_true rfl), (Nat.le_of_ble_eq_true rfl)⟩ hS (na_sub hD hS hA q_tp qp_tp) (fun H1 locs1 hP1 hk1 hS => ?_)
      have hP : nw D vcl PT ad (tlC cy ad (upN tp tn (fun _ => v) (i + 1)) (tn + (i + 1)) false rw ln op bg w cp cb pt pn cn cg er rc re) H1 := qj_tp hP hD hk1 hP1
      generalize H1 = H at hP hS ⊢
      refine lv_iinc (v := nI (i + 1)) (lv' := [(3, .int (nI (i + 1))), (0, .ref (ad 0)), (1, .int (nI v)), (2, .int (nI n))]) hx hb d_Tl_fill_40 hl (k := 0) rfl (nI_inc _) (by decide) rfl (fun ls hl => ?_)
      refine lv_goto (tgt := 27) hx hb d_Tl_fill_43 (by decide) ?_
      exact ih (i + 1) (by omega) _ _ _ hP hS (lv_sub hl [0, 1, 2, 3] rfl)
  exact loop n 0 (by omega) _ _ _ hP hS (lv_sub hl [0, 1, 2, 3] rfl)
set_option maxRecDepth 100000 in
set_option maxHeartbeats 4000000 in
theorem c_Tl_end1 (l : Launch) (D : va_G) (cy : Nat → ClassId) (ad : Nat → Nat) (sa : Nat → Nat) (base : Nat) (hl0 : l.stackTraces = false) (tp rw pt cn er rc re : Nat → Nat) (cg : Nat → Nat → Nat) (tn ln bg cp cb pn : Nat) (dn op w : Bool) (x : Int32) (h : x < nI 0 ∨ nI tn < x) : mtU l y_Tl_end b_Tl_end 2 (some .int) RT D cy [.ref (ad 0), .int (x)] ad (tlC cy ad tp tn dn rw ln op bg w cp cb pt pn cn cg er rc re) (fun ad' => tlC cy ad' tp tn dn rw ln op bg w cp cb pt pn cn cg er rc re) sa base xIA := by
  intro sz
  refine nx_ofW (cc := b_Tl_end) (maxL := 2) (ret := (some .int)) (own := R_Tl) (by decide) (Nat.le_of_ble_eq_true rfl) rfl ?_
  intro p e s m below meth c ls F hr hlk hex hv hl
  obtain ⟨hx, hb, hml, hown, hts⟩ := id F
  obtain ⟨rfl, ⟨hP, hK, hI⟩, hX, hlo⟩ := hv
  have hD : nd (na PT ad s.heap.size) PT ad := nd_self hI
  have hA : ∀ q, s.heap.size ≤ q → na PT ad s.heap.size q := fun q h => Or.inr h
  have hS : va_S (na PT ad s.heap.size) s.heap s.heap [] := va_S.rf
  have hl : lv_has ls 2 [(0, .ref (ad 0)), (1, .int (x))] := hl
  refine lv_iload_n hx hb d_Tl_end_0 rfl (lv_at hl 1 rfl) ?_
  refine lv_iconst (v := nI 0) hx hb d_Tl_end_1 (by decide) ?_
  refine lv_aload_n hx hb d_Tl_end_2 rfl (lv_at hl 0 rfl) ?_
  refine nw_get (D := D) (ci := 4) (C := R_Tl) (T := T_Tl) (N := 3) hx hb hts in_Tl hown hK.k hP (i := 0) (by decide) tl_0 rfl 0 (by decide) (hts _ kf_Tl_14) rfl d_Tl_end_3 ?_
  refine nw_getN (D := D) (ci := 1) (C := R_By) (T := T_By) (N := 2) hx hb hts in_By hown hK.k hP (i := 1) (by decide) tl_1 rfl 1 (by decide) (hK.nest 0 (by decide) rfl) rfl d_Tl_end_6 ?_
  exact esc_S (As := [.int (x), .int (nI 0), .int (nI tn)]) (rest := []) F hX (c_Tl_refuseOutside1 l sa base hl0 x (nI 0) (nI tn) h) km_Tl_42 kt_Tl_refuseOutside k0_Tl kc_Tl_refuseOutside kd_Tl_refuseOutside ⟨(Nat.le_of_ble_eq_true rfl), (Nat.le_of_ble_eq_true rfl)⟩ hl.1 rfl (Nat.le_of_ble_eq_true rfl) d_Tl_end_9 ⟨(Nat.le_of_ble_eq_true rfl), (Nat.le_of_ble_eq_true rfl)⟩ hS (na_lo hX hlo) hex hlk (fun t _ hz hk => fin_U hP (nxt_rf hD) hS hz hk) (fun _ h => h) (Nat.le_of_ble_eq_true rfl) (Nat.le_of_ble_eq_true rfl)
set_option maxRecDepth 100000 in
set_option maxHeartbeats 4000000 in
theorem c_Tl_end2 (l : Launch) (D : va_G) (cy : Nat → ClassId) (ad : Nat → Nat) (sa : Nat → Nat) (base : Nat) (hl0 : l.stackTraces = false) (tp rw pt cn er rc re : Nat → Nat) (cg : Nat → Nat → Nat) (tn ln bg cp cb pn : Nat) (dn op w : Bool) (x : Int32) (h1 : ¬ x < nI 0) (h2 : ¬ nI tn < x) : mtU l y_Tl_end b_Tl_end 2 (some .int) RT D cy [.ref (ad 0), .int (x)] ad (tlC cy ad tp tn true rw ln op bg w cp cb pt pn cn cg er rc re) (fun ad' => tlC cy ad' tp tn true rw ln op bg w cp cb pt pn cn cg er rc re) sa base xIS := by
  intro sz
  refine nx_ofW (cc := b_Tl_end) (maxL := 2) (ret := (some .int)) (own := R_Tl) (by decide) (Nat.le_of_ble_eq_true rfl) rfl ?_
  intro p e s m below meth c ls F hr hlk hex hv hl
  obtain ⟨hx, hb, hml, hown, hts⟩ := id F
  obtain ⟨rfl, ⟨hP, hK, hI⟩, hX, hlo⟩ := hv
  have hD : nd (na PT ad s.heap.size) PT ad := nd_self hI
  have hA : ∀ q, s.heap.size ≤ q → na PT ad s.heap.size q := fun q h => Or.inr h
  have hS : va_S (na PT ad s.heap.size) s.heap s.heap [] := va_S.rf
  have hl : lv_has ls 2 [(0, .ref (ad 0)), (1, .int (x))] := hl
  refine lv_iload_n hx hb d_Tl_end_0 rfl (lv_at hl 1 rfl) ?_
  refine lv_iconst (v := nI 0) hx hb d_Tl_end_1 (by decide) ?_
  refine lv_aload_n hx hb d_Tl_end_2 rfl (lv_at hl 0 rfl) ?_
  refine nw_get (D := D) (ci := 4) (C := R_Tl) (T := T_Tl) (N := 3) hx hb hts in_Tl hown hK.k hP (i := 0) (by decide) tl_0 rfl 0 (by decide) (hts _ kf_Tl_14) rfl d_Tl_end_3 ?_
  refine nw_getN (D := D) (ci := 1) (C := R_By) (T := T_By) (N := 2) hx hb hts in_By hown hK.k hP (i := 1) (by decide) tl_1 rfl 1 (by decide) (hK.nest 0 (by decide) rfl) rfl d_Tl_end_6 ?_
  refine call_SN (As := [.int (x), .int (nI 0), .int (nI tn)]) (rest := []) F (c_Tl_refuseOutside0 l x (nI 0) (nI tn) h1 h2) km_Tl_42 kt_Tl_refuseOutside k0_Tl kc_Tl_refuseOutside kd_Tl_refuseOutside ⟨(Nat.le_of_ble_eq_true rfl), (Nat.le_of_ble_eq_true rfl)⟩ hl.1 rfl (Nat.le_of_ble_eq_true rfl) d_Tl_end_9 ⟨(Nat.le_of_ble_eq_true rfl), (Nat.le_of_ble_eq_true rfl)⟩ hS (fun H1 locs1 hN hS => ?_)
  have hP := hN _ _ _ _ hP
  generalize H1 = H at hP hS ⊢
  refine lv_aload_n hx hb d_Tl_end_12 rfl (lv_at hl 0 rfl) ?_
  exact esc_V (As := []) (rest := []) F hK hX (c_Tl_refuseWhenDown1 l D cy ad sa base hl0 tp rw pt cn er rc re cg tn ln bg cp cb pn false op w) km_Tl_29 ki_Tl_refuseWhenDown ks_Tl_refuseWhenDown k0_Tl kc_Tl_refuseWhenDown kd_Tl_refuseWhenDown ⟨(Nat.le_of_ble_eq_true rfl), (Nat.le_of_ble_eq_true rfl)⟩ (nw_recv hK.k hP (i := 0) (by decide) tl_0 rfl) (hP) (hI) (hlo) hl.1 rfl (Nat.le_of_ble_eq_true rfl) d_Tl_end_13 ⟨(Nat.le_of_ble_eq_true rfl), (Nat.le_of_ble_eq_true rfl)⟩ hS (na_lo hX hlo) hex hlk (fun t _ hz hk => fin_U hP (nxt_rf hD) hS hz hk) (fun _ h => h) (Nat.le_of_ble_eq_true rfl) (Nat.le_of_ble_eq_true rfl)
set_option maxRecDepth 100000 in
set_option maxHeartbeats 4000000 in
theorem c_Tl_end0 (l : Launch) (D : va_G) (cy : Nat → ClassId) (ad : Nat → Nat) (tp rw pt cn er rc re : Nat → Nat) (cg : Nat → Nat → Nat) (tn ln bg cp cb pn : Nat) (dn op w : Bool) (n : Nat) (hn : n ≤ tn) (htn : tn ≤ 1060) : mtX l y_Tl_end b_Tl_end 2 (some .int) RT D cy [.ref (ad 0), .int (nI n)] ad (tlC cy ad tp tn false rw ln op bg w cp cb pt pn cn cg er rc re) (fun ad' => tlC cy ad' tp n false rw ln op bg w cp cb pt pn cn cg er rc re) (nI n) := by
  intro sz
  refine nm_ofW (cc := b_Tl_end) (maxL := 2) (ret := (some .int)) (own := R_Tl) (by decide) (Nat.le_of_ble_eq_true rfl) rfl ?_
  intro p e s m below meth c ls F hr hlk hnm hv hl
  obtain ⟨hx, hb, hml, hown, hts⟩ := id F
  obtain ⟨rfl, hP, hK, hI⟩ := hv
  have hD : nd (na PT ad s.heap.size) PT ad := nd_self hI
  have hA : ∀ q, s.heap.size ≤ q → na PT ad s.heap.size q := fun q h => Or.inr h
  have hS : va_S (na PT ad s.heap.size) s.heap s.heap [] := va_S.rf
  have hl : lv_has ls 2 [(0, .ref (ad 0)), (1, .int (nI n))] := hl
  refine lv_iload_n hx hb d_Tl_end_0 rfl (lv_at hl 1 rfl) ?_
  refine lv_iconst (v := nI 0) hx hb d_Tl_end_1 (by decide) ?_
  refine lv_aload_n hx hb d_Tl_end_2 rfl (lv_at hl 0 rfl) ?_
  refine nw_get (D := D) (ci := 4) (C := R_Tl) (T := T_Tl) (N := 3) hx hb hts in_Tl hown hK.k hP (i := 0) (by decide) tl_0 rfl 0 (by decide) (hts _ kf_Tl_14) rfl d_Tl_end_3 ?_
  refine nw_getN (D := D) (ci := 1) (C := R_By) (T := T_By) (N := 2) hx hb hts in_By hown hK.k hP (i := 1) (by decide) tl_1 rfl 1 (by decide) (hK.nest 0 (by decide) rfl) rfl d_Tl_end_6 ?_
  refine call_SN (As := [.int (nI n), .int (nI 0), .int (nI tn)]) (rest := []) F (c_Tl_refuseOutside0 l (nI n) (nI 0) (nI tn) (mt (nI_ltI (by omega) (by omega)).mp (by omega)) (mt (nI_ltI (by omega) (by omega)).mp (by omega))) km_Tl_42 kt_Tl_refuseOutside k0_Tl kc_Tl_refuseOutside kd_Tl_refuseOutside ⟨(Nat.le_of_ble_eq_true rfl), (Nat.le_of_ble_eq_true rfl)⟩ hl.1 rfl (Nat.le_of_ble_eq_true rfl) d_Tl_end_9 ⟨(Nat.le_of_ble_eq_true rfl), (Nat.le_of_ble_eq_true rfl)⟩ hS (fun H1 locs1 hN hS => ?_)
  have hP := hN _ _ _ _ hP
  generalize H1 = H at hP hS ⊢
  refine lv_aload_n hx hb d_Tl_end_12 rfl (lv_at hl 0 rfl) ?_
  refine call_N (As := []) (rest := []) F hK (c_Tl_refuseWhenDown0 l D cy ad tp rw pt cn er rc re cg tn ln bg cp cb pn false op w) km_Tl_29 ki_Tl_refuseWhenDown ks_Tl_refuseWhenDown k0_Tl kc_Tl_refuseWhenDown kd_Tl_refuseWhenDown ⟨(Nat.le_of_ble_eq_true rfl), (Nat.le_of_ble_eq_true rfl)⟩ (nw_recv hK.k hP (i := 0) (by decide) tl_0 rfl) (hP) (hI) hl.1 rfl (Nat.le_of_ble_eq_true rfl) d_Tl_end_13 ⟨(Nat.le_of_ble_eq_true rfl), (Nat.le_of_ble_eq_true rfl)⟩ hS (fun H1 locs1 hN hS => ?_)
  have hP := hN _ _ _ hP
  generalize H1 = H at hP hS ⊢
  refine lv_aload_n hx hb d_Tl_end_16 rfl (lv_at hl 0 rfl) ?_
  refine nw_get (D := D) (ci := 4) (C := R_Tl) (T := T_Tl) (N := 3) hx hb hts in_Tl hown hK.k hP (i := 0) (by decide) tl_0 rfl 0 (by decide) (hts _ kf_Tl_14) rfl d_Tl_end_17 ?_
  refine lv_iload_n hx hb d_Tl_end_20 rfl (lv_at hl 1 rfl) ?_
  refine nw_putN (D := D) (ci := 1) (C := R_By) (T := T_By) (N := 2) hx hb hts in_By ty_By tk_By nm_By hown hK.k hP hD hS (i := 1) (by decide) tl_1 rfl 1 (by decide) (hK.nest 0 (by decide) rfl) rfl rfl rfl (Nat.le_of_ble_eq_true rfl) d_Tl_end_21 (fun H locs hP hS hz hq => ?_)
  have hP : nw D vcl PT ad (tlC cy ad tp n false rw ln op bg w cp cb pt pn cn cg er rc re) H := nw_congr hP (tlu_tn)
  refine lv_iload_n hx hb d_Tl_end_24 rfl (lv_at hl 1 rfl) ?_
  refine W.widen (k := 2) (n := 2054) (Nat.le_of_ble_eq_true rfl) (Nat.le_of_ble_eq_true rfl) ?_
  exact W.zret hx hb hr rfl (fun t ht hW => ⟨⟨_, ad, rfl, ⟨rfl, nxt_rf hD⟩, by show nw _ _ _ _ _ t.heap; rw [ht]; exact hP⟩, hS.F ht⟩) hS.2.2 d_Tl_end_25 hlk
set_option maxRecDepth 100000 in
set_option maxHeartbeats 4000000 in
theorem c_Tl_retire1 (l : Launch) (D : va_G) (cy : Nat → ClassId) (ad : Nat → Nat) (sa : Nat → Nat) (base : Nat) (hl0 : l.stackTraces = false) (tp rw pt cn er rc re : Nat → Nat) (cg : Nat → Nat → Nat) (tn ln bg cp cb pn : Nat) (dn op w : Bool) (x : Int32) (h : x < nI 0 ∨ nI 23 < x) : mtU l y_Tl_retire b_Tl_retire 2 (some .int) RT D cy [.ref (ad 0), .int (x)] ad (tlC cy ad tp tn dn rw ln op bg w cp cb pt pn cn cg er rc re) (fun ad' => tlC cy ad' tp tn dn rw ln op bg w cp cb pt pn cn cg er rc re) sa base xIA := by
  intro sz
  refine nx_ofW (cc := b_Tl_retire) (maxL := 2) (ret := (some .int)) (own := R_Tl) (by decide) (Nat.le_of_ble_eq_true rfl) rfl ?_
  intro p e s m below meth c ls F hr hlk hex hv hl
  obtain ⟨hx, hb, hml, hown, hts⟩ := id F
  obtain ⟨rfl, ⟨hP, hK, hI⟩, hX, hlo⟩ := hv
  have hD : nd (na PT ad s.heap.size) PT ad := nd_self hI
  have hA : ∀ q, s.heap.size ≤ q → na PT ad s.heap.size q := fun q h => Or.inr h
  have hS : va_S (na PT ad s.heap.size) s.heap s.heap [] := va_S.rf
  have hl : lv_has ls 2 [(0, .ref (ad 0)), (1, .int (x))] := hl
  refine lv_iload_n hx hb d_Tl_retire_0 rfl (lv_at hl 1 rfl) ?_
  refine lv_iconst (v := nI 0) hx hb d_Tl_retire_1 (by decide) ?_
  refine lv_bipush (v := nI 23) hx hb d_Tl_retire_2 (by decide) ?_
  exact esc_S (As := [.int (x), .int (nI 0), .int (nI 23)]) (rest := []) F hX (c_Tl_refuseOutside1 l sa base hl0 x (nI 0) (nI 23) h) km_Tl_42 kt_Tl_refuseOutside k0_Tl kc_Tl_refuseOutside kd_Tl_refuseOutside ⟨(Nat.le_of_ble_eq_true rfl), (Nat.le_of_ble_eq_true rfl)⟩ hl.1 rfl (Nat.le_of_ble_eq_true rfl) d_Tl_retire_4 ⟨(Nat.le_of_ble_eq_true rfl), (Nat.le_of_ble_eq_true rfl)⟩ hS (na_lo hX hlo) hex hlk (fun t _ hz hk => fin_U hP (nxt_rf hD) hS hz hk) (fun _ h => h) (Nat.le_of_ble_eq_true rfl) (Nat.le_of_ble_eq_true rfl)
set_option maxRecDepth 100000 in
set_option maxHeartbeats 4000000 in
theorem c_Tl_retire2 (l : Launch) (D : va_G) (cy : Nat → ClassId) (ad : Nat → Nat) (sa : Nat → Nat) (base : Nat) (hl0 : l.stackTraces = false) (tp rw pt cn er rc re : Nat → Nat) (cg : Nat → Nat → Nat) (tn ln bg cp cb pn : Nat) (dn op w : Bool) (x : Int32) (h1 : ¬ x < nI 0) (h2 : ¬ nI 23 < x) : mtU l y_Tl_retire b_Tl_retire 2 (some .int) RT D cy [.ref (ad 0), .int (x)] ad (tlC cy ad tp tn true rw ln op bg w cp cb pt pn cn cg er rc re) (fun ad' => tlC cy ad' tp tn true rw ln op bg w cp cb pt pn cn cg er rc re) sa base xIS := by
  intro sz
  refine nx_ofW (cc := b_Tl_retire) (maxL := 2) (ret := (some .int)) (own := R_Tl) (by decide) (Nat.le_of_ble_eq_true rfl) rfl ?_
  intro p e s m below meth c ls F hr hlk hex hv hl
  obtain ⟨hx, hb, hml, hown, hts⟩ := id F
  obtain ⟨rfl, ⟨hP, hK, hI⟩, hX, hlo⟩ := hv
  have hD : nd (na PT ad s.heap.size) PT ad := nd_self hI
  have hA : ∀ q, s.heap.size ≤ q → na PT ad s.heap.size q := fun q h => Or.inr h
  have hS : va_S (na PT ad s.heap.size) s.heap s.heap [] := va_S.rf
  have hl : lv_has ls 2 [(0, .ref (ad 0)), (1, .int (x))] := hl
  refine lv_iload_n hx hb d_Tl_retire_0 rfl (lv_at hl 1 rfl) ?_
  refine lv_iconst (v := nI 0) hx hb d_Tl_retire_1 (by decide) ?_
  refine lv_bipush (v := nI 23) hx hb d_Tl_retire_2 (by decide) ?_
  refine call_SN (As := [.int (x), .int (nI 0), .int (nI 23)]) (rest := []) F (c_Tl_refuseOutside0 l x (nI 0) (nI 23) h1 h2) km_Tl_42 kt_Tl_refuseOutside k0_Tl kc_Tl_refuseOutside kd_Tl_refuseOutside ⟨(Nat.le_of_ble_eq_true rfl), (Nat.le_of_ble_eq_true rfl)⟩ hl.1 rfl (Nat.le_of_ble_eq_true rfl) d_Tl_retire_4 ⟨(Nat.le_of_ble_eq_true rfl), (Nat.le_of_ble_eq_true rfl)⟩ hS (fun H1 locs1 hN hS => ?_)
  have hP := hN _ _ _ _ hP
  generalize H1 = H at hP hS ⊢
  refine lv_aload_n hx hb d_Tl_retire_7 rfl (lv_at hl 0 rfl) ?_
  exact esc_V (As := []) (rest := []) F hK hX (c_Tl_refuseWhenDown1 l D cy ad sa base hl0 tp rw pt cn er rc re cg tn ln bg cp cb pn false op w) km_Tl_29 ki_Tl_refuseWhenDown ks_Tl_refuseWhenDown k0_Tl kc_Tl_refuseWhenDown kd_Tl_refuseWhenDown ⟨(Nat.le_of_ble_eq_true rfl), (Nat.le_of_ble_eq_true rfl)⟩ (nw_recv hK.k hP (i := 0) (by decide) tl_0 rfl) (hP) (hI) (hlo) hl.1 rfl (Nat.le_of_ble_eq_true rfl) d_Tl_retire_8 ⟨(Nat.le_of_ble_eq_true rfl), (Nat.le_of_ble_eq_true rfl)⟩ hS (na_lo hX hlo) hex hlk (fun t _ hz hk => fin_U hP (nxt_rf hD) hS hz hk) (fun _ h => h) (Nat.le_of_ble_eq_true rfl) (Nat.le_of_ble_eq_true rfl)
set_option maxRecDepth 100000 in
set_option maxHeartbeats 4000000 in
theorem c_Tl_retire3 (l : Launch) (D : va_G) (cy : Nat → ClassId) (ad : Nat → Nat) (sa : Nat → Nat) (base : Nat) (hl0 : l.stackTraces = false) (tp rw pt cn er rc re : Nat → Nat) (cg : Nat → Nat → Nat) (tn ln bg cp cb pn : Nat) (dn op w : Bool) (i : Nat) (hi : i ≤ 23) (h : ln ≤ i) : mtU l y_Tl_retire b_Tl_retire 2 (some .int) RT D cy [.ref (ad 0), .int (nI i)] ad (tlC cy ad tp tn false rw ln op bg w cp cb pt pn cn cg er rc re) (fun ad' => tlC cy ad' tp tn false rw ln op bg w cp cb pt pn cn cg er rc re) sa base xNE := by
  intro sz
  refine nx_ofW (cc := b_Tl_retire) (maxL := 2) (ret := (some .int)) (own := R_Tl) (by decide) (Nat.le_of_ble_eq_true rfl) rfl ?_
  intro p e s m below meth c ls F hr hlk hex hv hl
  obtain ⟨hx, hb, hml, hown, hts⟩ := id F
  obtain ⟨rfl, ⟨hP, hK, hI⟩, hX, hlo⟩ := hv
  have hD : nd (na PT ad s.heap.size) PT ad := nd_self hI
  have hA : ∀ q, s.heap.size ≤ q → na PT ad s.heap.size q := fun q h => Or.inr h
  have hS : va_S (na PT ad s.heap.size) s.heap s.heap [] := va_S.rf
  have hl : lv_has ls 2 [(0, .ref (ad 0)), (1, .int (nI i))] := hl
  refine lv_iload_n hx hb d_Tl_retire_0 rfl (lv_at hl 1 rfl) ?_
  refine lv_iconst (v := nI 0) hx hb d_Tl_retire_1 (by decide) ?_
  refine lv_bipush (v := nI 23) hx hb d_Tl_retire_2 (by decide) ?_
  refine call_SN (As := [.int (nI i), .int (nI 0), .int (nI 23)]) (rest := []) F (c_Tl_refuseOutside0 l (nI i) (nI 0) (nI 23) (mt (nI_ltI (by omega) (by omega)).mp (by omega)) (mt (nI_ltI (by omega) (by omega)).mp (by omega))) km_Tl_42 kt_Tl_refuseOutside k0_Tl kc_Tl_refuseOutside kd_Tl_refuseOutside ⟨(Nat.le_of_ble_eq_true rfl), (Nat.le_of_ble_eq_true rfl)⟩ hl.1 rfl (Nat.le_of_ble_eq_true rfl) d_Tl_retire_4 ⟨(Nat.le_of_ble_eq_true rfl), (Nat.le_of_ble_eq_true rfl)⟩ hS (fun H1 locs1 hN hS => ?_)
  have hP := hN _ _ _ _ hP
  generalize H1 = H at hP hS ⊢
  refine lv_aload_n hx hb d_Tl_retire_7 rfl (lv_at hl 0 rfl) ?_
  refine call_N (As := []) (rest := []) F hK (c_Tl_refuseWhenDown0 l D cy ad tp rw pt cn er rc re cg tn ln bg cp cb pn false op w) km_Tl_29 ki_Tl_refuseWhenDown ks_Tl_refuseWhenDown k0_Tl kc_Tl_refuseWhenDown kd_Tl_refuseWhenDown ⟨(Nat.le_of_ble_eq_true rfl), (Nat.le_of_ble_eq_true rfl)⟩ (nw_recv hK.k hP (i := 0) (by decide) tl_0 rfl) (hP) (hI) hl.1 rfl (Nat.le_of_ble_eq_true rfl) d_Tl_retire_8 ⟨(Nat.le_of_ble_eq_true rfl), (Nat.le_of_ble_eq_true rfl)⟩ hS (fun H1 locs1 hN hS => ?_)
  have hP := hN _ _ _ hP
  generalize H1 = H at hP hS ⊢
  refine lv_iload_n hx hb d_Tl_retire_11 rfl (lv_at hl 1 rfl) ?_
  refine lv_aload_n hx hb d_Tl_retire_12 rfl (lv_at hl 0 rfl) ?_
  refine nw_get (D := D) (ci := 4) (C := R_Tl) (T := T_Tl) (N := 3) hx hb hts in_Tl hown hK.k hP (i := 0) (by decide) tl_0 rfl 1 (by decide) (hts _ kf_Tl_21) rfl d_Tl_retire_13 ?_
  refine nw_getN (D := D) (ci := 3) (C := R_Lg) (T := T_Lg) (N := 7) hx hb hts in_Lg hown hK.k hP (i := 3) (by decide) tl_3 rfl 2 (by decide) (hK.nest 8 (by decide) rfl) rfl d_Tl_retire_16 ?_
  refine lv_icmp_lt (tgt := 32) hx hb d_Tl_retire_19 (by decide) (fun c19 => absurd c19 (fun z => absurd ((nI_ltI (by omega) (by omega)).mp z) (by omega))) (fun c19 => ?_)
  exact thr_NE F hl0 hX (List.mem_of_getElem? (i := 6) rfl) hS (na_lo hX hlo) hl.1 d_Tl_retire_22 d_Tl_retire_25 d_Tl_retire_26 d_Tl_retire_28 d_Tl_retire_31 hex ⟨(Nat.le_of_ble_eq_true rfl), (Nat.le_of_ble_eq_true rfl)⟩ (Nat.le_of_ble_eq_true rfl) (Nat.le_of_ble_eq_true rfl) hlk (fun t _ hz hk => fin_U hP (nxt_rf hD) hS hz hk) hS.2.2 (Nat.le_of_ble_eq_true rfl) (Nat.le_of_ble_eq_true rfl)
set_option maxRecDepth 100000 in
set_option maxHeartbeats 4000000 in
theorem c_Tl_retire0 (l : Launch) (D : va_G) (cy : Nat → ClassId) (ad : Nat → Nat) (tp rw pt cn er rc re : Nat → Nat) (cg : Nat → Nat → Nat) (tn ln bg cp cb pn : Nat) (dn op w : Bool) (HL : ln ≤ 24) (HR : ∀ i, i < ln → rw i < 24) (i : Nat) (hi : i ≤ 23) (h : i < ln) : mtX l y_Tl_retire b_Tl_retire 2 (some .int) RT D cy [.ref (ad 0), .int (nI i)] ad (tlC cy ad tp tn false rw ln op bg w cp cb pt pn cn cg er rc re) (fun ad' => tlC cy ad' tp tn false (dropR rw i (ln - 1)) (ln - 1) (op && decide (i ≠ ln - 1)) bg w cp cb pt pn cn cg er rc re) (nI (ln - 1)) := by
  intro sz
  refine nm_ofW (cc := b_Tl_retire) (maxL := 2) (ret := (some .int)) (own := R_Tl) (by decide) (Nat.le_of_ble_eq_true rfl) rfl ?_
  intro p e s m below meth c ls F hr hlk hnm hv hl
  obtain ⟨hx, hb, hml, hown, hts⟩ := id F
  obtain ⟨rfl, hP, hK, hI⟩ := hv
  have hD : nd (na PT ad s.heap.size) PT ad := nd_self hI
  have hA : ∀ q, s.heap.size ≤ q → na PT ad s.heap.size q := fun q h => Or.inr h
  have hS : va_S (na PT ad s.heap.size) s.heap s.heap [] := va_S.rf
  have hl : lv_has ls 2 [(0, .ref (ad 0)), (1, .int (nI i))] := hl
  refine lv_iload_n hx hb d_Tl_retire_0 rfl (lv_at hl 1 rfl) ?_
  refine lv_iconst (v := nI 0) hx hb d_Tl_retire_1 (by decide) ?_
  refine lv_bipush (v := nI 23) hx hb d_Tl_retire_2 (by decide) ?_
  refine call_SN (As := [.int (nI i), .int (nI 0), .int (nI 23)]) (rest := []) F (c_Tl_refuseOutside0 l (nI i) (nI 0) (nI 23) (mt (nI_ltI (by omega) (by omega)).mp (by omega)) (mt (nI_ltI (by omega) (by omega)).mp (by omega))) km_Tl_42 kt_Tl_refuseOutside k0_Tl kc_Tl_refuseOutside kd_Tl_refuseOutside ⟨(Nat.le_of_ble_eq_true rfl), (Nat.le_of_ble_eq_true rfl)⟩ hl.1 rfl (Nat.le_of_ble_eq_true rfl) d_Tl_retire_4 ⟨(Nat.le_of_ble_eq_true rfl), (Nat.le_of_ble_eq_true rfl)⟩ hS (fun H1 locs1 hN hS => ?_)
  have hP := hN _ _ _ _ hP
  generalize H1 = H at hP hS ⊢
  refine lv_aload_n hx hb d_Tl_retire_7 rfl (lv_at hl 0 rfl) ?_
  refine call_N (As := []) (rest := []) F hK (c_Tl_refuseWhenDown0 l D cy ad tp rw pt cn er rc re cg tn ln bg cp cb pn false op w) km_Tl_29 ki_Tl_refuseWhenDown ks_Tl_refuseWhenDown k0_Tl kc_Tl_refuseWhenDown kd_Tl_refuseWhenDown ⟨(Nat.le_of_ble_eq_true rfl), (Nat.le_of_ble_eq_true rfl)⟩ (nw_recv hK.k hP (i := 0) (by decide) tl_0 rfl) (hP) (hI) hl.1 rfl (Nat.le_of_ble_eq_true rfl) d_Tl_retire_8 ⟨(Nat.le_of_ble_eq_true rfl), (Nat.le_of_ble_eq_true rfl)⟩ hS (fun H1 locs1 hN hS => ?_)
  have hP := hN _ _ _ hP
  generalize H1 = H at hP hS ⊢
  refine lv_iload_n hx hb d_Tl_retire_11 rfl (lv_at hl 1 rfl) ?_
  refine lv_aload_n hx hb d_Tl_retire_12 rfl (lv_at hl 0 rfl) ?_
  refine nw_get (D := D) (ci := 4) (C := R_Tl) (T := T_Tl) (N := 3) hx hb hts in_Tl hown hK.k hP (i := 0) (by decide) tl_0 rfl 1 (by decide) (hts _ kf_Tl_21) rfl d_Tl_retire_13 ?_
  refine nw_getN (D := D) (ci := 3) (C := R_Lg) (T := T_Lg) (N := 7) hx hb hts in_Lg hown hK.k hP (i := 3) (by decide) tl_3 rfl 2 (by decide) (hK.nest 8 (by decide) rfl) rfl d_Tl_retire_16 ?_
  refine lv_icmp_lt (tgt := 32) hx hb d_Tl_retire_19 (by decide) (fun c19 => ?_) (fun c19 => absurd ((nI_ltI (by omega) (by omega)).mpr (by omega)) c19)
  refine lv_aload_n hx hb d_Tl_retire_32 rfl (lv_at hl 0 rfl) ?_
  refine nw_get (D := D) (ci := 4) (C := R_Tl) (T := T_Tl) (N := 3) hx hb hts in_Tl hown hK.k hP (i := 0) (by decide) tl_0 rfl 1 (by decide) (hts _ kf_Tl_21) rfl d_Tl_retire_33 ?_
  refine lv_iload_n hx hb d_Tl_retire_36 rfl (lv_at hl 1 rfl) ?_
  refine call_V (As := [.int (nI i)]) (rest := []) F hK (c_Lg_drop l D cy ad i tp rw pt cn er rc re cg tn ln bg cp cb pn false op w HL HR h) km_Tl_86 ki_Lg_drop ks_Lg_drop k0_Lg kc_Lg_drop kd_Lg_drop ⟨Nat.le_of_ble_eq_true rfl, Nat.le_of_ble_eq_true rfl⟩ (nw_recv hK.k hP (i := 3) (by decide) tl_3 rfl) (hP) (hI) hl.1 rfl (Nat.le_of_ble_eq_true rfl) d_Tl_retire_37 ⟨(Nat.le_of_ble_eq_true rfl), (Nat.le_of_ble_eq_true rfl)⟩ hS (na_le hS) (fun H1 locs1 hP1 hk1 hS => ?_)
  have hP : nw D vcl PT ad (tlC cy ad tp tn false (dropR rw i (ln - 1)) (ln - 1) (op && decide (i ≠ ln - 1)) bg w cp cb pt pn cn cg er rc re) H1 := hP1
  generalize H1 = H at hP hS ⊢
  refine lv_aload_n hx hb d_Tl_retire_40 rfl (lv_at hl 0 rfl) ?_
  refine nw_get (D := D) (ci := 4) (C := R_Tl) (T := T_Tl) (N := 3) hx hb hts in_Tl hown hK.k hP (i := 0) (by decide) tl_0 rfl 1 (by decide) (hts _ kf_Tl_21) rfl d_Tl_retire_41 ?_
  refine nw_getN (D := D) (ci := 3) (C := R_Lg) (T := T_Lg) (N := 7) hx hb hts in_Lg hown hK.k hP (i := 3) (by decide) tl_3 rfl 2 (by decide) (hK.nest 8 (by decide) rfl) rfl d_Tl_retire_44 ?_
  refine W.widen (k := 2) (n := 2054) (Nat.le_of_ble_eq_true rfl) (Nat.le_of_ble_eq_true rfl) ?_
  exact W.zret hx hb hr rfl (fun t ht hW => ⟨⟨_, ad, rfl, ⟨rfl, nxt_rf hD⟩, by show nw _ _ _ _ _ t.heap; rw [ht]; exact hP⟩, hS.F ht⟩) hS.2.2 d_Tl_retire_47 hlk
set_option maxRecDepth 100000 in
set_option maxHeartbeats 4000000 in
theorem c_Tl_cut1 (l : Launch) (D : va_G) (cy : Nat → ClassId) (ad : Nat → Nat) (sa : Nat → Nat) (base : Nat) (hl0 : l.stackTraces = false) (tp rw pt cn er rc re : Nat → Nat) (cg : Nat → Nat → Nat) (tn ln bg cp cb pn : Nat) (dn op w : Bool) (x y : Int32) (h : x < 0) : mtU l y_Tl_cut b_Tl_cut 4 (some .int) RT D cy [.ref (ad 0), .int (x), .int (y)] ad (tlC cy ad tp tn dn rw ln op bg w cp cb pt pn cn cg er rc re) (fun ad' => tlC cy ad' tp tn dn rw ln op bg w cp cb pt pn cn cg er rc re) sa base xIA := by
  intro sz
  refine nx_ofW (cc := b_Tl_cut) (maxL := 4) (ret := (some .int)) (own := R_Tl) (by decide) (Nat.le_of_ble_eq_true rfl) rfl ?_
  intro p e s m below meth c ls F hr hlk hex hv hl
  obtain ⟨hx, hb, hml, hown, hts⟩ := id F
  obtain ⟨rfl, ⟨hP, hK, hI⟩, hX, hlo⟩ := hv
  have hD : nd (na PT ad s.heap.size) PT ad := nd_self hI
  have hA : ∀ q, s.heap.size ≤ q → na PT ad s.heap.size q := fun q h => Or.inr h
  have hS : va_S (na PT ad s.heap.size) s.heap s.heap [] := va_S.rf
  have hl : lv_has ls 4 [(0, .ref (ad 0)), (1, .int (x)), (2, .int (y))] := hl
  refine lv_iload_n hx hb d_Tl_cut_0 rfl (lv_at hl 1 rfl) ?_
  exact esc_S (As := [.int (x)]) (rest := []) F hX (c_Tl_refuseNegative1 l sa base hl0 x h) km_Tl_49 kt_Tl_refuseNegative k0_Tl kc_Tl_refuseNegative kd_Tl_refuseNegative ⟨(Nat.le_of_ble_eq_true rfl), (Nat.le_of_ble_eq_true rfl)⟩ hl.1 rfl (Nat.le_of_ble_eq_true rfl) d_Tl_cut_1 ⟨(Nat.le_of_ble_eq_true rfl), (Nat.le_of_ble_eq_true rfl)⟩ hS (na_lo hX hlo) hex hlk (fun t _ hz hk => fin_U hP (nxt_rf hD) hS hz hk) (fun _ h => h) (Nat.le_of_ble_eq_true rfl) (Nat.le_of_ble_eq_true rfl)
set_option maxRecDepth 100000 in
set_option maxHeartbeats 4000000 in
theorem c_Tl_cut2 (l : Launch) (D : va_G) (cy : Nat → ClassId) (ad : Nat → Nat) (sa : Nat → Nat) (base : Nat) (hl0 : l.stackTraces = false) (tp rw pt cn er rc re : Nat → Nat) (cg : Nat → Nat → Nat) (tn ln bg cp cb pn : Nat) (dn op w : Bool) (x y : Int32) (h1 : ¬ x < 0) (h : y < 0) : mtU l y_Tl_cut b_Tl_cut 4 (some .int) RT D cy [.ref (ad 0), .int (x), .int (y)] ad (tlC cy ad tp tn dn rw ln op bg w cp cb pt pn cn cg er rc re) (fun ad' => tlC cy ad' tp tn dn rw ln op bg w cp cb pt pn cn cg er rc re) sa base xIA := by
  intro sz
  refine nx_ofW (cc := b_Tl_cut) (maxL := 4) (ret := (some .int)) (own := R_Tl) (by decide) (Nat.le_of_ble_eq_true rfl) rfl ?_
  intro p e s m below meth c ls F hr hlk hex hv hl
  obtain ⟨hx, hb, hml, hown, hts⟩ := id F
  obtain ⟨rfl, ⟨hP, hK, hI⟩, hX, hlo⟩ := hv
  have hD : nd (na PT ad s.heap.size) PT ad := nd_self hI
  have hA : ∀ q, s.heap.size ≤ q → na PT ad s.heap.size q := fun q h => Or.inr h
  have hS : va_S (na PT ad s.heap.size) s.heap s.heap [] := va_S.rf
  have hl : lv_has ls 4 [(0, .ref (ad 0)), (1, .int (x)), (2, .int (y))] := hl
  refine lv_iload_n hx hb d_Tl_cut_0 rfl (lv_at hl 1 rfl) ?_
  refine call_SN (As := [.int (x)]) (rest := []) F (c_Tl_refuseNegative0 l x h1) km_Tl_49 kt_Tl_refuseNegative k0_Tl kc_Tl_refuseNegative kd_Tl_refuseNegative ⟨(Nat.le_of_ble_eq_true rfl), (Nat.le_of_ble_eq_true rfl)⟩ hl.1 rfl (Nat.le_of_ble_eq_true rfl) d_Tl_cut_1 ⟨(Nat.le_of_ble_eq_true rfl), (Nat.le_of_ble_eq_true rfl)⟩ hS (fun H1 locs1 hN hS => ?_)
  have hP := hN _ _ _ _ hP
  generalize H1 = H at hP hS ⊢
  refine lv_iload_n hx hb d_Tl_cut_4 rfl (lv_at hl 2 rfl) ?_
  exact esc_S (As := [.int (y)]) (rest := []) F hX (c_Tl_refuseNegative1 l sa base hl0 y h) km_Tl_49 kt_Tl_refuseNegative k0_Tl kc_Tl_refuseNegative kd_Tl_refuseNegative ⟨(Nat.le_of_ble_eq_true rfl), (Nat.le_of_ble_eq_true rfl)⟩ hl.1 rfl (Nat.le_of_ble_eq_true rfl) d_Tl_cut_5 ⟨(Nat.le_of_ble_eq_true rfl), (Nat.le_of_ble_eq_true rfl)⟩ hS (na_lo hX hlo) hex hlk (fun t _ hz hk => fin_U hP (nxt_rf hD) hS hz hk) (fun _ h => h) (Nat.le_of_ble_eq_true rfl) (Nat.le_of_ble_eq_true rfl)
set_option maxRecDepth 100000 in
set_option maxHeartbeats 4000000 in
theorem c_Tl_cut0 (l : Launch) (D : va_G) (cy : Nat → ClassId) (ad : Nat → Nat) (tp rw pt cn er rc re : Nat → Nat) (cg : Nat → Nat → Nat) (tn ln bg cp cb pn : Nat) (dn op w : Bool) (n b : Nat) (hn : n < 2 ^ 31) (hb31 : b < 2 ^ 31) : mtX l y_Tl_cut b_Tl_cut 4 (some .int) RT D cy [.ref (ad 0), .int (nI n), .int (nI b)] ad (tlC cy ad tp tn dn rw ln op bg w cp cb pt pn cn cg er rc re) (fun ad' => tlC cy ad' tp tn dn rw ln op bg true n b pt pn cn cg er rc re) (bI w) := by
  intro sz
  refine nm_ofW (cc := b_Tl_cut) (maxL := 4) (ret := (some .int)) (own := R_Tl) (by decide) (Nat.le_of_ble_eq_true rfl) rfl ?_
  intro p e s m below meth c ls F hr hlk hnm hv hl
  obtain ⟨hx, hb, hml, hown, hts⟩ := id F
  obtain ⟨rfl, hP, hK, hI⟩ := hv
  have hD : nd (na PT ad s.heap.size) PT ad := nd_self hI
  have hA : ∀ q, s.heap.size ≤ q → na PT ad s.heap.size q := fun q h => Or.inr h
  have hS : va_S (na PT ad s.heap.size) s.heap s.heap [] := va_S.rf
  have hl : lv_has ls 4 [(0, .ref (ad 0)), (1, .int (nI n)), (2, .int (nI b))] := hl
  refine lv_iload_n hx hb d_Tl_cut_0 rfl (lv_at hl 1 rfl) ?_
  refine call_SN (As := [.int (nI n)]) (rest := []) F (c_Tl_refuseNegative0 l (nI n) (nI_pos hn)) km_Tl_49 kt_Tl_refuseNegative k0_Tl kc_Tl_refuseNegative kd_Tl_refuseNegative ⟨(Nat.le_of_ble_eq_true rfl), (Nat.le_of_ble_eq_true rfl)⟩ hl.1 rfl (Nat.le_of_ble_eq_true rfl) d_Tl_cut_1 ⟨(Nat.le_of_ble_eq_true rfl), (Nat.le_of_ble_eq_true rfl)⟩ hS (fun H1 locs1 hN hS => ?_)
  have hP := hN _ _ _ _ hP
  generalize H1 = H at hP hS ⊢
  refine lv_iload_n hx hb d_Tl_cut_4 rfl (lv_at hl 2 rfl) ?_
  refine call_SN (As := [.int (nI b)]) (rest := []) F (c_Tl_refuseNegative0 l (nI b) (nI_pos hb31)) km_Tl_49 kt_Tl_refuseNegative k0_Tl kc_Tl_refuseNegative kd_Tl_refuseNegative ⟨(Nat.le_of_ble_eq_true rfl), (Nat.le_of_ble_eq_true rfl)⟩ hl.1 rfl (Nat.le_of_ble_eq_true rfl) d_Tl_cut_5 ⟨(Nat.le_of_ble_eq_true rfl), (Nat.le_of_ble_eq_true rfl)⟩ hS (fun H1 locs1 hN hS => ?_)
  have hP := hN _ _ _ _ hP
  generalize H1 = H at hP hS ⊢
  refine lv_aload_n hx hb d_Tl_cut_8 rfl (lv_at hl 0 rfl) ?_
  refine nw_get (D := D) (ci := 4) (C := R_Tl) (T := T_Tl) (N := 3) hx hb hts in_Tl hown hK.k hP (i := 0) (by decide) tl_0 rfl 1 (by decide) (hts _ kf_Tl_21) rfl d_Tl_cut_9 ?_
  refine nw_getN (D := D) (ci := 3) (C := R_Lg) (T := T_Lg) (N := 7) hx hb hts in_Lg hown hK.k hP (i := 3) (by decide) tl_3 rfl 5 (by decide) (hK.nest 9 (by decide) rfl) rfl d_Tl_cut_12 ?_
  refine nw_getN (D := D) (ci := 2) (C := R_Cu) (T := T_Cu) (N := 3) hx hb hts in_Cu hown hK.k hP (i := 6) (by decide) tl_6 rfl 0 (by decide) (hK.nest 7 (by decide) rfl) rfl d_Tl_cut_15 ?_
  refine lv_istore_n (lv' := [(3, .int (bI (w))), (0, .ref (ad 0)), (1, .int (nI n)), (2, .int (nI b))]) hx hb d_Tl_cut_18 rfl hl (by decide) rfl (fun ls hl => ?_)
  refine lv_aload_n hx hb d_Tl_cut_19 rfl (lv_at hl 1 rfl) ?_
  refine nw_get (D := D) (ci := 4) (C := R_Tl) (T := T_Tl) (N := 3) hx hb hts in_Tl hown hK.k hP (i := 0) (by decide) tl_0 rfl 1 (by decide) (hts _ kf_Tl_21) rfl d_Tl_cut_20 ?_
  refine nw_getN (D := D) (ci := 3) (C := R_Lg) (T := T_Lg) (N := 7) hx hb hts in_Lg hown hK.k hP (i := 3) (by decide) tl_3 rfl 5 (by decide) (hK.nest 9 (by decide) rfl) rfl d_Tl_cut_23 ?_
  refine lv_iload_n hx hb d_Tl_cut_26 rfl (lv_at hl 2 rfl) ?_
  refine lv_iload_n hx hb d_Tl_cut_27 rfl (lv_at hl 3 rfl) ?_
  refine call_V (As := [.int (nI n), .int (nI b)]) (rest := []) F hK (c_Cu_set l D cy (fun i => ad (q_cu i)) w cp cb n b) km_Tl_98 ki_Cu_set ks_Cu_set k0_Cu kc_Cu_set kd_Cu_set ⟨Nat.le_of_ble_eq_true rfl, Nat.le_of_ble_eq_true rfl⟩ (nw_recv hK.k hP (i := 6) (by decide) tl_6 rfl) (nw_sub hP q_cu qs_cu) (qi_cu hD) hl.1 rfl (Nat.le_of_ble_eq_true rfl) d_Tl_cut_28 ⟨(Nat.le_of_ble_eq_true rfl), (Nat.le_of_ble_eq_true rfl)⟩ hS (na_sub hD hS hA q_cu qp_cu) (fun H1 locs1 hP1 hk1 hS => ?_)
  have hP : nw D vcl PT ad (tlC cy ad tp tn dn rw ln op bg true n b pt pn cn cg er rc re) H1 := qj_cu hP hD hk1 hP1
  generalize H1 = H at hP hS ⊢
  refine lv_iload_n hx hb d_Tl_cut_31 rfl (lv_at hl 0 rfl) ?_
  refine lv_if_eq (tgt := 39) hx hb d_Tl_cut_32 (by decide) (fun c32 => ?_) (fun c32 => ?_)
  · have c32 := bI_eq0.mp c32
    refine lv_iconst (v := nI 0) hx hb d_Tl_cut_39 (by decide) ?_
    rw [c32]
    refine W.widen (k := 2) (n := 2054) (Nat.le_of_ble_eq_true rfl) (Nat.le_of_ble_eq_true rfl) ?_
    exact W.zret hx hb hr rfl (fun t ht hW => ⟨⟨_, ad, rfl, ⟨rfl, nxt_rf hD⟩, by show nw _ _ _ _ _ t.heap; rw [ht]; exact hP⟩, hS.F ht⟩) hS.2.2 d_Tl_cut_40 hlk
  · have c32 := mt bI_eq0.mpr c32
    refine lv_iconst (v := nI 1) hx hb d_Tl_cut_35 (by decide) ?_
    refine lv_goto (tgt := 40) hx hb d_Tl_cut_36 (by decide) ?_
    have c32 : w = true := by simpa using c32
    rw [c32]
    refine W.widen (k := 2) (n := 2054) (Nat.le_of_ble_eq_true rfl) (Nat.le_of_ble_eq_true rfl) ?_
    exact W.zret hx hb hr rfl (fun t ht hW => ⟨⟨_, ad, rfl, ⟨rfl, nxt_rf hD⟩, by show nw _ _ _ _ _ t.heap; rw [ht]; exact hP⟩, hS.F ht⟩) hS.2.2 d_Tl_cut_40 hlk
set_option maxRecDepth 100000 in
set_option maxHeartbeats 4000000 in
theorem c_Tl_mount (l : Launch) (D : va_G) (cy : Nat → ClassId) (ad : Nat → Nat) (tp rw pt cn er rc re : Nat → Nat) (cg : Nat → Nat → Nat) (tn ln bg cp cb pn : Nat) (dn op w : Bool) (HC : ∀ b, b < 24 → cn b < 2 ^ 16) (HG : ∀ b, b < 24 → ∀ j, j < cn b → cg b j < 256) (HO : ∀ b, b < 24 → begB cn cg b = true → orB cn cg b < 2 ^ 31) (HQ : ∀ b, b < 24 → moC cn cg rc 24 b < 2 ^ 16 ∧ moE cn cg re 24 b < 2 ^ 16) : mtX l y_Tl_mount b_Tl_mount 1 (some .int) RT D cy [.ref (ad 0)] ad (tlC cy ad tp tn dn rw ln op bg w cp cb pt pn cn cg er rc re) (fun ad' => tlC cy ad' tp 0 false (moR cn cg rw 24) (moL cn cg 24) false bg w cp cb pt pn cn cg er (moC cn cg rc 24) (moE cn cg re 24)) (nI (sumR (moC cn cg rc 24) (moR cn cg rw 24) (moL cn cg 24))) := by
  intro sz
  refine nm_ofW (cc := b_Tl_mount) (maxL := 1) (ret := (some .int)) (own := R_Tl) (by decide) (Nat.le_of_ble_eq_true rfl) rfl ?_
  intro p e s m below meth c ls F hr hlk hnm hv hl
  obtain ⟨hx, hb, hml, hown, hts⟩ := id F
  obtain ⟨rfl, hP, hK, hI⟩ := hv
  have hD : nd (na PT ad s.heap.size) PT ad := nd_self hI
  have hA : ∀ q, s.heap.size ≤ q → na PT ad s.heap.size q := fun q h => Or.inr h
  have hS : va_S (na PT ad s.heap.size) s.heap s.heap [] := va_S.rf
  have hl : lv_has ls 1 [(0, .ref (ad 0))] := hl
  refine lv_aload_n hx hb d_Tl_mount_0 rfl (lv_at hl 0 rfl) ?_
  refine lv_iconst (v := bI false) hx hb d_Tl_mount_1 (by decide) ?_
  refine nw_put (D := D) (ci := 4) (C := R_Tl) (T := T_Tl) (N := 3) hx hb hts in_Tl ty_Tl tk_Tl nm_Tl hown hK.k hP hD hS (i := 0) (by decide) tl_0 rfl 2 (by decide) (hts _ kf_Tl_25) rfl (bI_nar _) (bI_fit _) (Nat.le_of_ble_eq_true rfl) d_Tl_mount_2 (fun H locs hP hS hz hq => ?_)
  have hP : nw D vcl PT ad (tlC cy ad tp tn false rw ln op bg w cp cb pt pn cn cg er rc re) H := nw_congr hP (tlu_dn)
  refine lv_aload_n hx hb d_Tl_mount_5 rfl (lv_at hl 0 rfl) ?_
  refine nw_get (D := D) (ci := 4) (C := R_Tl) (T := T_Tl) (N := 3) hx hb hts in_Tl hown hK.k hP (i := 0) (by decide) tl_0 rfl 0 (by decide) (hts _ kf_Tl_14) rfl d_Tl_mount_6 ?_
  refine lv_iconst (v := nI 0) hx hb d_Tl_mount_9 (by decide) ?_
  refine nw_putN (D := D) (ci := 1) (C := R_By) (T := T_By) (N := 2) hx hb hts in_By ty_By tk_By nm_By hown hK.k hP hD hS (i := 1) (by decide) tl_1 rfl 1 (by decide) (hK.nest 0 (by decide) rfl) rfl rfl rfl (Nat.le_of_ble_eq_true rfl) d_Tl_mount_10 (fun H locs hP hS hz hq => ?_)
  have hP : nw D vcl PT ad (tlC cy ad tp 0 false rw ln op bg w cp cb pt pn cn cg er rc re) H := nw_congr hP (tlu_tn)
  refine lv_aload_n hx hb d_Tl_mount_13 rfl (lv_at hl 0 rfl) ?_
  refine nw_get (D := D) (ci := 4) (C := R_Tl) (T := T_Tl) (N := 3) hx hb hts in_Tl hown hK.k hP (i := 0) (by decide) tl_0 rfl 1 (by decide) (hts _ kf_Tl_21) rfl d_Tl_mount_14 ?_
  refine call_V (As := []) (rest := []) F hK (c_Lg_findOnChip l D cy ad tp rw pt cn er rc re cg 0 ln bg cp cb pn false op w HC HG HO) km_Tl_102 ki_Lg_findOnChip ks_Lg_findOnChip k0_Lg kc_Lg_findOnChip kd_Lg_findOnChip ⟨Nat.le_of_ble_eq_true rfl, Nat.le_of_ble_eq_true rfl⟩ (nw_recv hK.k hP (i := 3) (by decide) tl_3 rfl) (hP) (hI) hl.1 rfl (Nat.le_of_ble_eq_true rfl) d_Tl_mount_17 ⟨(Nat.le_of_ble_eq_true rfl), (Nat.le_of_ble_eq_true rfl)⟩ hS (na_le hS) (fun H1 locs1 hP1 hk1 hS => ?_)
  have hP : nw D vcl PT ad (tlC cy ad tp 0 false (moR cn cg rw 24) (moL cn cg 24) false bg w cp cb pt pn cn cg er (moC cn cg rc 24) (moE cn cg re 24)) H1 := hP1
  generalize H1 = H at hP hS ⊢
  refine lv_aload_n hx hb d_Tl_mount_20 rfl (lv_at hl 0 rfl) ?_
  refine nw_get (D := D) (ci := 4) (C := R_Tl) (T := T_Tl) (N := 3) hx hb hts in_Tl hown hK.k hP (i := 0) (by decide) tl_0 rfl 1 (by decide) (hts _ kf_Tl_21) rfl d_Tl_mount_21 ?_
  refine call_R (As := []) (rest := []) F hK (c_Lg_records l D cy ad tp (moR cn cg rw 24) pt cn er (moC cn cg rc 24) (moE cn cg re 24) cg 0 (moL cn cg 24) bg cp cb pn false false w (moL_le 24) (fun t ht => (moR_spec rw 24 t ht).1) HQ) km_Tl_105 ki_Lg_records ks_Lg_records k0_Lg kc_Lg_records kd_Lg_records ⟨Nat.le_of_ble_eq_true rfl, Nat.le_of_ble_eq_true rfl⟩ (nw_recv hK.k hP (i := 3) (by decide) tl_3 rfl) (hP) (hI) hl.1 rfl (Nat.le_of_ble_eq_true rfl) d_Tl_mount_24 ⟨(Nat.le_of_ble_eq_true rfl), (Nat.le_of_ble_eq_true rfl)⟩ hS (fun H1 locs1 hN hS => ?_)
  have hP := hN _ _ _ hP
  generalize H1 = H at hP hS ⊢
  refine W.widen (k := 2) (n := 2054) (Nat.le_of_ble_eq_true rfl) (Nat.le_of_ble_eq_true rfl) ?_
  exact W.zret hx hb hr rfl (fun t ht hW => ⟨⟨_, ad, rfl, ⟨rfl, nxt_rf hD⟩, by show nw _ _ _ _ _ t.heap; rw [ht]; exact hP⟩, hS.F ht⟩) hS.2.2 d_Tl_mount_27 hlk

/-! the law: a call of the script, case by case -/
set_option maxRecDepth 100000 in
set_option maxHeartbeats 4000000 in
theorem lc_feed {p : Program} {l : Launch} {e : Env} {s : State} {m : MethodId} {below : List Frame} {meth : Method} {c : Code} {H : Heap} {locs : List Loc} {cells slots : Nat} {Q : State → Prop} {ls : Array Slot} {D : va_G} {cy : Nat → ClassId} {b L j k0 oa : Nat} {xs : Nat → Int32} {sa ad am : Nat → Nat} {x : Int64} {ct mt : (Nat → Nat) → Nat → va_E}
    (F : CallFix p m c code 8 s #[Value.ref b] TG R_Lw) (hK : KN D cy s) (hX : KX sa s.heap.size s) (hNC : NC s) (hl0 : l.stackTraces = false) (hS0 : va_X b L xs s s.heap) (hbl : b < s.heap.size) (hL31 : L < 2 ^ 31) (hj : 6 * j + 6 ≤ L) (hn : j < 512)
    (hR : REL cy j ct mt k0) (hI : LWI D cy s.heap.size ct mt ad am oa x H) (hS : va_S (fun q => s.heap.size ≤ q) s.heap H locs) (hl : lv_has ls 8 [(0, .ref b), (1, .ref (ad 0)), (2, .ref (am 0)), (3, .ref oa), (4, .int (nI (6 * j)))]) (hc : cells + 2 ≤ room_1.cells) (hs : slots + 2054 ≤ room_1.slots)
    (kk : ∀ (ct' mt' : (Nat → Nat) → Nat → va_E) (k' : Nat) (ad' : Nat → Nat) (x' : Int64) (H1 : Heap) (locs1 : List Loc) (ls1 : Array Slot), REL cy (j + 1) ct' mt' k' → LWI D cy s.heap.size ct' mt' ad' am oa x' H1 → va_S (fun q => s.heap.size ≤ q) s.heap H1 locs1 → lv_has ls1 8 [(0, .ref b), (1, .ref (ad' 0)), (2, .ref (am 0)), (3, .ref oa), (4, .int (nI (6 * j)))] → W p l e room_1 s m #[Value.ref b] below meth c H1 locs1 (cells + 2) (slots + 2054) Q (F0 m 732 ls1 [])) :
    W p l e room_1 s m #[Value.ref b] below meth c H locs cells slots Q (F0 m 96 ls []) := by
  obtain ⟨hx, hb, hml, hown, hts⟩ := id F
  have hz := hS.1
  have hbA : ¬ (fun q : Nat => s.heap.size ≤ q) b := Nat.not_le.mpr hbl
  have g1 : 6 * j + 1 < L := by omega
  have g2 : 6 * j + 2 < L := by omega
  have g3 : 6 * j + 3 < L := by omega
  have g4 : 6 * j + 4 < L := by omega
  have g5 : 6 * j + 5 < L := by omega
  obtain ⟨k, o, r, ct', mt', hk3, hko, hR', hH, hM⟩ := st_feed (l := l) (D := D) hl0 hR (xs (6 * j + 1)) (xs (6 * j + 2)) (xs (6 * j + 3)) (xs (6 * j + 4)) (xs (6 * j + 5))
  refine lv_aload_n hx hb d_Lw_law_96 rfl (lv_at hl 1 rfl) ?_
  refine sc_ld (i := 6 * j) (a := 1) hx hb hS0 hbl hbA hS hL31 g1 (by decide) (lv_at hl 0 rfl) (lv_at hl 4 rfl) d_Lw_law_97 d_Lw_law_98 d_Lw_law_100 d_Lw_law_101 d_Lw_law_102 ?_
  refine sc_ld (i := 6 * j) (a := 2) hx hb hS0 hbl hbA hS hL31 g2 (by decide) (lv_at hl 0 rfl) (lv_at hl 4 rfl) d_Lw_law_103 d_Lw_law_104 d_Lw_law_106 d_Lw_law_107 d_Lw_law_108 ?_
  refine sc_ld (i := 6 * j) (a := 3) hx hb hS0 hbl hbA hS hL31 g3 (by decide) (lv_at hl 0 rfl) (lv_at hl 4 rfl) d_Lw_law_109 d_Lw_law_110 d_Lw_law_112 d_Lw_law_113 d_Lw_law_114 ?_
  refine sc_ld (i := 6 * j) (a := 4) hx hb hS0 hbl hbA hS hL31 g4 (by decide) (lv_at hl 0 rfl) (lv_at hl 4 rfl) d_Lw_law_115 d_Lw_law_116 d_Lw_law_118 d_Lw_law_119 d_Lw_law_120 ?_
  refine sc_ld (i := 6 * j) (a := 5) hx hb hS0 hbl hbA hS hL31 g5 (by decide) (lv_at hl 0 rfl) (lv_at hl 4 rfl) d_Lw_law_121 d_Lw_law_122 d_Lw_law_124 d_Lw_law_125 d_Lw_law_126 ?_
  refine lv_aload_n hx hb d_Lw_law_127 rfl (lv_at hl 3 rfl) ?_
  refine call_H (As := [.ref (ad 0), .int (xs (6 * j + 1)), .int (xs (6 * j + 2)), .int (xs (6 * j + 3)), .int (xs (6 * j + 4)), .int (xs (6 * j + 5)), .ref oa]) (rest := []) F hK hX hNC (hH ad oa x sa s.heap.size) km_Lw_53 kt_Lw_feed k0_Lw kc_Lw_feed kd_Lw_feed ⟨(Nat.le_of_ble_eq_true rfl), (Nat.le_of_ble_eq_true rfl)⟩ hI.1.1 hI.2.1.1 hI.2.2.2.1 hI.1.2.2 hI.2.2.1.2.1 hI.2.2.2.2.2 hl.1 rfl (Nat.le_of_ble_eq_true rfl) d_Lw_law_128 ⟨hc, hs⟩ hS (hI.A1 hz) (fun _ h => h) (fun ad' o' H1 locs1 hnx ho hP1 hO1 hk1 hS1 => ?_)
  have hI1 := hI.hlp hz hnx hP1 hO1 hk1
  have e0 : ad' 0 = ad 0 := hnx.1 0 (by decide)
  refine lv_istore (lv' := [(5, .int (nI k)), (0, .ref b), (1, .ref (ad 0)), (2, .ref (am 0)), (3, .ref oa), (4, .int (nI (6 * j)))]) hx hb d_Lw_law_131 hl (by decide) rfl (fun ls hl => ?_)
  refine lv_aload_n hx hb d_Lw_law_133 rfl (lv_at hl 3 rfl) ?_
  refine sc_ld (i := 6 * j) (a := 1) hx hb hS0 hbl hbA hS1 hL31 g1 (by decide) (lv_at hl 1 rfl) (lv_at hl 5 rfl) d_Lw_law_134 d_Lw_law_135 d_Lw_law_137 d_Lw_law_138 d_Lw_law_139 ?_
  refine sc_ld (i := 6 * j) (a := 2) hx hb hS0 hbl hbA hS1 hL31 g2 (by decide) (lv_at hl 1 rfl) (lv_at hl 5 rfl) d_Lw_law_140 d_Lw_law_141 d_Lw_law_143 d_Lw_law_144 d_Lw_law_145 ?_
  refine sc_ld (i := 6 * j) (a := 3) hx hb hS0 hbl hbA hS1 hL31 g3 (by decide) (lv_at hl 1 rfl) (lv_at hl 5 rfl) d_Lw_law_146 d_Lw_law_147 d_Lw_law_149 d_Lw_law_150 d_Lw_law_151 ?_
  refine sc_ld (i := 6 * j) (a := 4) hx hb hS0 hbl hbA hS1 hL31 g4 (by decide) (lv_at hl 1 rfl) (lv_at hl 5 rfl) d_Lw_law_152 d_Lw_law_153 d_Lw_law_155 d_Lw_law_156 d_Lw_law_157 ?_
  refine sc_ld (i := 6 * j) (a := 5) hx hb hS0 hbl hbA hS1 hL31 g5 (by decide) (lv_at hl 1 rfl) (lv_at hl 5 rfl) d_Lw_law_158 d_Lw_law_159 d_Lw_law_161 d_Lw_law_162 d_Lw_law_163 ?_
  obtain ⟨fm, hm0⟩ := hR.m0 am
  refine call_I (As := [.int (xs (6 * j + 1)), .int (xs (6 * j + 2)), .int (xs (6 * j + 3)), .int (xs (6 * j + 4)), .int (xs (6 * j + 5))]) (rest := []) (b := am 0) F hK (hM am) km_Lw_58 ki_Mo_feed ks_Mo_feed k0_Mo kc_Mo_feed kd_Mo_feed ⟨(Nat.le_of_ble_eq_true rfl), (Nat.le_of_ble_eq_true rfl)⟩ (nw_recv hK.k hI1.1.2.1 (i := 0) (by decide) hm0 rfl) hI1.1.2.1 hI1.2.1.2 hl.1 rfl (Nat.le_of_ble_eq_true rfl) d_Lw_law_164 ⟨(by show cells + 2 + 0 ≤ _; exact hc), (by show slots + 2054 + 0 ≤ _; exact hs)⟩ hS1 (hI1.A2 hS1.1) (fun H2 locs2 hP2 hk2 hS2 => ?_)
  refine W.widen (k := cells + 2) (n := slots + 2054) (Nat.le_refl _) (Nat.le_refl _) ?_
  have hI2 := hI1.mdl (mt' := mt') hP2 hk2
  refine lv_istore (lv' := [(6, .int r), (5, .int (nI k)), (0, .ref b), (1, .ref (ad 0)), (2, .ref (am 0)), (3, .ref oa), (4, .int (nI (6 * j)))]) hx hb d_Lw_law_167 hl (by decide) rfl (fun ls hl => ?_)
  refine lv_aload_n hx hb d_Lw_law_169 rfl (lv_at hl 4 rfl) ?_
  obtain ⟨fm2, hm2⟩ := hR'.m0 am
  refine call_R (As := []) (rest := []) (b := am 0) F hK (hR'.thr l D am) km_Lw_59 ki_Mo_thrown ks_Mo_thrown k0_Mo kc_Mo_thrown kd_Mo_thrown ⟨(Nat.le_of_ble_eq_true rfl), (Nat.le_of_ble_eq_true rfl)⟩ (nw_recv hK.k hI2.1.2.1 (i := 0) (by decide) hm2 rfl) hI2.1.2.1 hI2.2.1.2 hl.1 rfl (Nat.le_of_ble_eq_true rfl) d_Lw_law_170 ⟨(by show cells + 2 + 0 ≤ _; exact hc), (by show slots + 2054 + 0 ≤ _; exact hs)⟩ hS2 (fun H3 locs3 hall hS3 => ?_)
  refine W.widen (k := cells + 2) (n := slots + 2054) (Nat.le_refl _) (Nat.le_refl _) ?_
  have hI3 := hI2.all hall
  refine lv_iload hx hb d_Lw_law_173 (lv_at hl 1 rfl) ?_
  refine lv_icmp_eq (tgt := 180) hx hb d_Lw_law_175 (by decide) (fun _ => ?_) (fun h => absurd rfl h)
  refine lv_iload hx hb d_Lw_law_180 (lv_at hl 1 rfl) ?_
  have hend : W p l e room_1 s m #[Value.ref b] below meth c H3 locs3 (cells + 2) (slots + 2054) Q (F0 m 197 ls []) := by
    refine lv_goto (tgt := 732) hx hb d_Lw_law_197 (by decide) ?_
    exact kk ct' mt' k ad' o' H3 locs3 ls hR' hI3 hS3 (by rw [e0]; exact lv_sub hl [2, 3, 4, 5, 6] rfl)
  refine lv_if_ne (tgt := 197) hx hb d_Lw_law_182 (by decide) (fun _ => hend) (fun h => ?_)
  have hk0 : k = 0 := (nI_z0 (by omega)).mp h
  refine lv_aload_n hx hb d_Lw_law_185 rfl (lv_at hl 5 rfl) ?_
  refine lv_iconst (v := nI 0) hx hb d_Lw_law_186 (by decide) ?_
  refine nwo_lald hx hb hK hI3.1.2.2 d_Lw_law_187 ?_
  refine lv_iload hx hb d_Lw_law_188 (lv_at hl 0 rfl) ?_
  refine lv_i2l hx hb d_Lw_law_190 rfl ?_
  refine W.lcmp hx hb d_Lw_law_191 ?_
  exact lv_if_eq (tgt := 197) hx hb d_Lw_law_192 (by decide) (fun _ => hend) (fun h => absurd ((lg_cmp_eq _ _).mpr ((ho hk0).trans (hko hk0))) h)
set_option maxRecDepth 100000 in
set_option maxHeartbeats 4000000 in
theorem lc_fill {p : Program} {l : Launch} {e : Env} {s : State} {m : MethodId} {below : List Frame} {meth : Method} {c : Code} {H : Heap} {locs : List Loc} {cells slots : Nat} {Q : State → Prop} {ls : Array Slot} {D : va_G} {cy : Nat → ClassId} {b L j k0 oa : Nat} {xs : Nat → Int32} {sa ad am : Nat → Nat} {x : Int64} {ct mt : (Nat → Nat) → Nat → va_E}
    (F : CallFix p m c code 8 s #[Value.ref b] TG R_Lw) (hK : KN D cy s) (hX : KX sa s.heap.size s) (hNC : NC s) (hl0 : l.stackTraces = false) (hS0 : va_X b L xs s s.heap) (hbl : b < s.heap.size) (hL31 : L < 2 ^ 31) (hj : 6 * j + 6 ≤ L) (hn : j < 512)
    (hR : REL cy j ct mt k0) (hI : LWI D cy s.heap.size ct mt ad am oa x H) (hS : va_S (fun q => s.heap.size ≤ q) s.heap H locs) (hl : lv_has ls 8 [(0, .ref b), (1, .ref (ad 0)), (2, .ref (am 0)), (3, .ref oa), (4, .int (nI (6 * j)))]) (hc : cells + 2 ≤ room_1.cells) (hs : slots + 2054 ≤ room_1.slots)
    (kk : ∀ (ct' mt' : (Nat → Nat) → Nat → va_E) (k' : Nat) (ad' : Nat → Nat) (x' : Int64) (H1 : Heap) (locs1 : List Loc) (ls1 : Array Slot), REL cy (j + 1) ct' mt' k' → LWI D cy s.heap.size ct' mt' ad' am oa x' H1 → va_S (fun q => s.heap.size ≤ q) s.heap H1 locs1 → lv_has ls1 8 [(0, .ref b), (1, .ref (ad' 0)), (2, .ref (am 0)), (3, .ref oa), (4, .int (nI (6 * j)))] → W p l e room_1 s m #[Value.ref b] below meth c H1 locs1 (cells + 2) (slots + 2054) Q (F0 m 732 ls1 [])) :
    W p l e room_1 s m #[Value.ref b] below meth c H locs cells slots Q (F0 m 200 ls []) := by
  obtain ⟨hx, hb, hml, hown, hts⟩ := id F
  have hz := hS.1
  have hbA : ¬ (fun q : Nat => s.heap.size ≤ q) b := Nat.not_le.mpr hbl
  have g1 : 6 * j + 1 < L := by omega
  have g2 : 6 * j + 2 < L := by omega
  obtain ⟨k, o, r, ct', mt', hk3, hko, hR', hH, hM⟩ := st_fill (l := l) (D := D) hl0 hR (xs (6 * j + 1)) (xs (6 * j + 2))
  refine lv_aload_n hx hb d_Lw_law_200 rfl (lv_at hl 1 rfl) ?_
  refine sc_ld (i := 6 * j) (a := 1) hx hb hS0 hbl hbA hS hL31 g1 (by decide) (lv_at hl 0 rfl) (lv_at hl 4 rfl) d_Lw_law_201 d_Lw_law_202 d_Lw_law_204 d_Lw_law_205 d_Lw_law_206 ?_
  refine sc_ld (i := 6 * j) (a := 2) hx hb hS0 hbl hbA hS hL31 g2 (by decide) (lv_at hl 0 rfl) (lv_at hl 4 rfl) d_Lw_law_207 d_Lw_law_208 d_Lw_law_210 d_Lw_law_211 d_Lw_law_212 ?_
  refine lv_aload_n hx hb d_Lw_law_213 rfl (lv_at hl 3 rfl) ?_
  refine call_H (As := [.ref (ad 0), .int (xs (6 * j + 1)), .int (xs (6 * j + 2)), .ref oa]) (rest := []) F hK hX hNC (hH ad oa x sa s.heap.size) km_Lw_63 kt_Lw_fill k0_Lw kc_Lw_fill kd_Lw_fill ⟨(Nat.le_of_ble_eq_true rfl), (Nat.le_of_ble_eq_true rfl)⟩ hI.1.1 hI.2.1.1 hI.2.2.2.1 hI.1.2.2 hI.2.2.1.2.1 hI.2.2.2.2.2 hl.1 rfl (Nat.le_of_ble_eq_true rfl) d_Lw_law_214 ⟨hc, hs⟩ hS (hI.A1 hz) (fun _ h => h) (fun ad' o' H1 locs1 hnx ho hP1 hO1 hk1 hS1 => ?_)
  have hI1 := hI.hlp hz hnx hP1 hO1 hk1
  have e0 : ad' 0 = ad 0 := hnx.1 0 (by decide)
  refine lv_istore (lv' := [(5, .int (nI k)), (0, .ref b), (1, .ref (ad 0)), (2, .ref (am 0)), (3, .ref oa), (4, .int (nI (6 * j)))]) hx hb d_Lw_law_217 hl (by decide) rfl (fun ls hl => ?_)
  refine lv_aload_n hx hb d_Lw_law_219 rfl (lv_at hl 3 rfl) ?_
  refine sc_ld (i := 6 * j) (a := 1) hx hb hS0 hbl hbA hS1 hL31 g1 (by decide) (lv_at hl 1 rfl) (lv_at hl 5 rfl) d_Lw_law_220 d_Lw_law_221 d_Lw_law_223 d_Lw_law_224 d_Lw_law_225 ?_
  refine sc_ld (i := 6 * j) (a := 2) hx hb hS0 hbl hbA hS1 hL31 g2 (by decide) (lv_at hl 1 rfl) (lv_at hl 5 rfl) d_Lw_law_226 d_Lw_law_227 d_Lw_law_229 d_Lw_law_230 d_Lw_law_231 ?_
  obtain ⟨fm, hm0⟩ := hR.m0 am
  refine call_I (As := [.int (xs (6 * j + 1)), .int (xs (6 * j + 2))]) (rest := []) (b := am 0) F hK (hM am) km_Lw_66 ki_Mo_fill ks_Mo_fill k0_Mo kc_Mo_fill kd_Mo_fill ⟨(Nat.le_of_ble_eq_true rfl), (Nat.le_of_ble_eq_true rfl)⟩ (nw_recv hK.k hI1.1.2.1 (i := 0) (by decide) hm0 rfl) hI1.1.2.1 hI1.2.1.2 hl.1 rfl (Nat.le_of_ble_eq_true rfl) d_Lw_law_232 ⟨(by show cells + 2 + 0 ≤ _; exact hc), (by show slots + 2054 + 0 ≤ _; exact hs)⟩ hS1 (hI1.A2 hS1.1) (fun H2 locs2 hP2 hk2 hS2 => ?_)
  refine W.widen (k := cells + 2) (n := slots + 2054) (Nat.le_refl _) (Nat.le_refl _) ?_
  have hI2 := hI1.mdl (mt' := mt') hP2 hk2
  refine lv_istore (lv' := [(6, .int r), (5, .int (nI k)), (0, .ref b), (1, .ref (ad 0)), (2, .ref (am 0)), (3, .ref oa), (4, .int (nI (6 * j)))]) hx hb d_Lw_law_235 hl (by decide) rfl (fun ls hl => ?_)
  refine lv_aload_n hx hb d_Lw_law_237 rfl (lv_at hl 4 rfl) ?_
  obtain ⟨fm2, hm2⟩ := hR'.m0 am
  refine call_R (As := []) (rest := []) (b := am 0) F hK (hR'.thr l D am) km_Lw_59 ki_Mo_thrown ks_Mo_thrown k0_Mo kc_Mo_thrown kd_Mo_thrown ⟨(Nat.le_of_ble_eq_true rfl), (Nat.le_of_ble_eq_true rfl)⟩ (nw_recv hK.k hI2.1.2.1 (i := 0) (by decide) hm2 rfl) hI2.1.2.1 hI2.2.1.2 hl.1 rfl (Nat.le_of_ble_eq_true rfl) d_Lw_law_238 ⟨(by show cells + 2 + 0 ≤ _; exact hc), (by show slots + 2054 + 0 ≤ _; exact hs)⟩ hS2 (fun H3 locs3 hall hS3 => ?_)
  refine W.widen (k := cells + 2) (n := slots + 2054) (Nat.le_refl _) (Nat.le_refl _) ?_
  have hI3 := hI2.all hall
  refine lv_iload hx hb d_Lw_law_241 (lv_at hl 1 rfl) ?_
  refine lv_icmp_eq (tgt := 248) hx hb d_Lw_law_243 (by decide) (fun _ => ?_) (fun h => absurd rfl h)
  refine lv_iload hx hb d_Lw_law_248 (lv_at hl 1 rfl) ?_
  have hend : W p l e room_1 s m #[Value.ref b] below meth c H3 locs3 (cells + 2) (slots + 2054) Q (F0 m 265 ls []) := by
    refine lv_goto (tgt := 732) hx hb d_Lw_law_265 (by decide) ?_
    exact kk ct' mt' k ad' o' H3 locs3 ls hR' hI3 hS3 (by rw [e0]; exact lv_sub hl [2, 3, 4, 5, 6] rfl)
  refine lv_if_ne (tgt := 265) hx hb d_Lw_law_250 (by decide) (fun _ => hend) (fun h => ?_)
  have hk0 : k = 0 := (nI_z0 (by omega)).mp h
  refine lv_aload_n hx hb d_Lw_law_253 rfl (lv_at hl 5 rfl) ?_
  refine lv_iconst (v := nI 0) hx hb d_Lw_law_254 (by decide) ?_
  refine nwo_lald hx hb hK hI3.1.2.2 d_Lw_law_255 ?_
  refine lv_iload hx hb d_Lw_law_256 (lv_at hl 0 rfl) ?_
  refine lv_i2l hx hb d_Lw_law_258 rfl ?_
  refine W.lcmp hx hb d_Lw_law_259 ?_
  exact lv_if_eq (tgt := 265) hx hb d_Lw_law_260 (by decide) (fun _ => hend) (fun h => absurd ((lg_cmp_eq _ _).mpr ((ho hk0).trans (hko hk0))) h)
set_option maxRecDepth 100000 in
set_option maxHeartbeats 4000000 in
theorem lc_end {p : Program} {l : Launch} {e : Env} {s : State} {m : MethodId} {below : List Frame} {meth : Method} {c : Code} {H : Heap} {locs : List Loc} {cells slots : Nat} {Q : State → Prop} {ls : Array Slot} {D : va_G} {cy : Nat → ClassId} {b L j k0 oa : Nat} {xs : Nat → Int32} {sa ad am : Nat → Nat} {x : Int64} {ct mt : (Nat → Nat) → Nat → va_E}
    (F : CallFix p m c code 8 s #[Value.ref b] TG R_Lw) (hK : KN D cy s) (hX : KX sa s.heap.size s) (hNC : NC s) (hl0 : l.stackTraces = false) (hS0 : va_X b L xs s s.heap) (hbl : b < s.heap.size) (hL31 : L < 2 ^ 31) (hj : 6 * j + 6 ≤ L) (hn : j < 512)
    (hR : REL cy j ct mt k0) (hI : LWI D cy s.heap.size ct mt ad am oa x H) (hS : va_S (fun q => s.heap.size ≤ q) s.heap H locs) (hl : lv_has ls 8 [(0, .ref b), (1, .ref (ad 0)), (2, .ref (am 0)), (3, .ref oa), (4, .int (nI (6 * j)))]) (hc : cells + 2 ≤ room_1.cells) (hs : slots + 2054 ≤ room_1.slots)
    (kk : ∀ (ct' mt' : (Nat → Nat) → Nat → va_E) (k' : Nat) (ad' : Nat → Nat) (x' : Int64) (H1 : Heap) (locs1 : List Loc) (ls1 : Array Slot), REL cy (j + 1) ct' mt' k' → LWI D cy s.heap.size ct' mt' ad' am oa x' H1 → va_S (fun q => s.heap.size ≤ q) s.heap H1 locs1 → lv_has ls1 8 [(0, .ref b), (1, .ref (ad' 0)), (2, .ref (am 0)), (3, .ref oa), (4, .int (nI (6 * j)))] → W p l e room_1 s m #[Value.ref b] below meth c H1 locs1 (cells + 2) (slots + 2054) Q (F0 m 732 ls1 [])) :
    W p l e room_1 s m #[Value.ref b] below meth c H locs cells slots Q (F0 m 268 ls []) := by
  obtain ⟨hx, hb, hml, hown, hts⟩ := id F
  have hz := hS.1
  have hbA : ¬ (fun q : Nat => s.heap.size ≤ q) b := Nat.not_le.mpr hbl
  have g1 : 6 * j + 1 < L := by omega
  obtain ⟨k, o, r, ct', mt', hk3, hko, hR', hH, hM⟩ := st_end (l := l) (D := D) hl0 hR (xs (6 * j + 1))
  refine lv_aload_n hx hb d_Lw_law_268 rfl (lv_at hl 1 rfl) ?_
  refine sc_ld (i := 6 * j) (a := 1) hx hb hS0 hbl hbA hS hL31 g1 (by decide) (lv_at hl 0 rfl) (lv_at hl 4 rfl) d_Lw_law_269 d_Lw_law_270 d_Lw_law_272 d_Lw_law_273 d_Lw_law_274 ?_
  refine lv_aload_n hx hb d_Lw_law_275 rfl (lv_at hl 3 rfl) ?_
  refine call_H (As := [.ref (ad 0), .int (xs (6 * j + 1)), .ref oa]) (rest := []) F hK hX hNC (hH ad oa x sa s.heap.size) km_Lw_67 kt_Lw_end k0_Lw kc_Lw_end kd_Lw_end ⟨(Nat.le_of_ble_eq_true rfl), (Nat.le_of_ble_eq_true rfl)⟩ hI.1.1 hI.2.1.1 hI.2.2.2.1 hI.1.2.2 hI.2.2.1.2.1 hI.2.2.2.2.2 hl.1 rfl (Nat.le_of_ble_eq_true rfl) d_Lw_law_276 ⟨hc, hs⟩ hS (hI.A1 hz) (fun _ h => h) (fun ad' o' H1 locs1 hnx ho hP1 hO1 hk1 hS1 => ?_)
  have hI1 := hI.hlp hz hnx hP1 hO1 hk1
  have e0 : ad' 0 = ad 0 := hnx.1 0 (by decide)
  refine lv_istore (lv' := [(5, .int (nI k)), (0, .ref b), (1, .ref (ad 0)), (2, .ref (am 0)), (3, .ref oa), (4, .int (nI (6 * j)))]) hx hb d_Lw_law_279 hl (by decide) rfl (fun ls hl => ?_)
  refine lv_aload_n hx hb d_Lw_law_281 rfl (lv_at hl 3 rfl) ?_
  refine sc_ld (i := 6 * j) (a := 1) hx hb hS0 hbl hbA hS1 hL31 g1 (by decide) (lv_at hl 1 rfl) (lv_at hl 5 rfl) d_Lw_law_282 d_Lw_law_283 d_Lw_law_285 d_Lw_law_286 d_Lw_law_287 ?_
  obtain ⟨fm, hm0⟩ := hR.m0 am
  refine call_I (As := [.int (xs (6 * j + 1))]) (rest := []) (b := am 0) F hK (hM am) km_Lw_70 ki_Mo_end ks_Mo_end k0_Mo kc_Mo_end kd_Mo_end ⟨(Nat.le_of_ble_eq_true rfl), (Nat.le_of_ble_eq_true rfl)⟩ (nw_recv hK.k hI1.1.2.1 (i := 0) (by decide) hm0 rfl) hI1.1.2.1 hI1.2.1.2 hl.1 rfl (Nat.le_of_ble_eq_true rfl) d_Lw_law_288 ⟨(by show cells + 2 + 0 ≤ _; exact hc), (by show slots + 2054 + 0 ≤ _; exact hs)⟩ hS1 (hI1.A2 hS1.1) (fun H2 locs2 hP2 hk2 hS2 => ?_)
  refine W.widen (k := cells + 2) (n := slots + 2054) (Nat.le_refl _) (Nat.le_refl _) ?_
  have hI2 := hI1.mdl (mt' := mt') hP2 hk2
  refine lv_istore (lv' := [(6, .int r), (5, .int (nI k)), (0, .ref b), (1, .ref (ad 0)), (2, .ref (am 0)), (3, .ref oa), (4, .int (nI (6 * j)))]) hx hb d_Lw_law_291 hl (by decide) rfl (fun ls hl => ?_)
  refine lv_aload_n hx hb d_Lw_law_293 rfl (lv_at hl 4 rfl) ?_
  obtain ⟨fm2, hm2⟩ := hR'.m0 am
  refine call_R (As := []) (rest := []) (b := am 0) F hK (hR'.thr l D am) km_Lw_59 ki_Mo_thrown ks_Mo_thrown k0_Mo kc_Mo_thrown kd_Mo_thrown ⟨(Nat.le_of_ble_eq_true rfl), (Nat.le_of_ble_eq_true rfl)⟩ (nw_recv hK.k hI2.1.2.1 (i := 0) (by decide) hm2 rfl) hI2.1.2.1 hI2.2.1.2 hl.1 rfl (Nat.le_of_ble_eq_true rfl) d_Lw_law_294 ⟨(by show cells + 2 + 0 ≤ _; exact hc), (by show slots + 2054 + 0 ≤ _; exact hs)⟩ hS2 (fun H3 locs3 hall hS3 => ?_)
  refine W.widen (k := cells + 2) (n := slots + 2054) (Nat.le_refl _) (Nat.le_refl _) ?_
  have hI3 := hI2.all hall
  refine lv_iload hx hb d_Lw_law_297 (lv_at hl 1 rfl) ?_
  refine lv_icmp_eq (tgt := 304) hx hb d_Lw_law_299 (by decide) (fun _ => ?_) (fun h => absurd rfl h)
  refine lv_iload hx hb d_Lw_law_304 (lv_at hl 1 rfl) ?_
  have hend : W p l e room_1 s m #[Value.ref b] below meth c H3 locs3 (cells + 2) (slots + 2054) Q (F0 m 321 ls []) := by
    refine lv_goto (tgt := 732) hx hb d_Lw_law_321 (by decide) ?_
    exact kk ct' mt' k ad' o' H3 locs3 ls hR' hI3 hS3 (by rw [e0]; exact lv_sub hl [2, 3, 4, 5, 6] rfl)
  refine lv_if_ne (tgt := 321) hx hb d_Lw_law_306 (by decide) (fun _ => hend) (fun h => ?_)
  have hk0 : k = 0 := (nI_z0 (by omega)).mp h
  refine lv_aload_n hx hb d_Lw_law_309 rfl (lv_at hl 5 rfl) ?_
  refine lv_iconst (v := nI 0) hx hb d_Lw_law_310 (by decide) ?_
  refine nwo_lald hx hb hK hI3.1.2.2 d_Lw_law_311 ?_
  refine lv_iload hx hb d_Lw_law_312 (lv_at hl 0 rfl) ?_
  refine lv_i2l hx hb d_Lw_law_314 rfl ?_
  refine W.lcmp hx hb d_Lw_law_315 ?_
  exact lv_if_eq (tgt := 321) hx hb d_Lw_law_316 (by decide) (fun _ => hend) (fun h => absurd ((lg_cmp_eq _ _).mpr ((ho hk0).trans (hko hk0))) h)
set_option maxRecDepth 100000 in
set_option maxHeartbeats 4000000 in
theorem lc_append {p : Program} {l : Launch} {e : Env} {s : State} {m : MethodId} {below : List Frame} {meth : Method} {c : Code} {H : Heap} {locs : List Loc} {cells slots : Nat} {Q : State → Prop} {ls : Array Slot} {D : va_G} {cy : Nat → ClassId} {b L j k0 oa : Nat} {xs : Nat → Int32} {sa ad am : Nat → Nat} {x : Int64} {ct mt : (Nat → Nat) → Nat → va_E}
    (F : CallFix p m c code 8 s #[Value.ref b] TG R_Lw) (hK : KN D cy s) (hX : KX sa s.heap.size s) (hNC : NC s) (hl0 : l.stackTraces = false) (hS0 : va_X b L xs s s.heap) (hbl : b < s.heap.size) (hL31 : L < 2 ^ 31) (hj : 6 * j + 6 ≤ L) (hn : j < 512)
    (hR : REL cy j ct mt k0) (hI : LWI D cy s.heap.size ct mt ad am oa x H) (hS : va_S (fun q => s.heap.size ≤ q) s.heap H locs) (hl : lv_has ls 8 [(0, .ref b), (1, .ref (ad 0)), (2, .ref (am 0)), (3, .ref oa), (4, .int (nI (6 * j)))]) (hc : cells + 2 ≤ room_1.cells) (hs : slots + 2054 ≤ room_1.slots)
    (kk : ∀ (ct' mt' : (Nat → Nat) → Nat → va_E) (k' : Nat) (ad' : Nat → Nat) (x' : Int64) (H1 : Heap) (locs1 : List Loc) (ls1 : Array Slot), REL cy (j + 1) ct' mt' k' → LWI D cy s.heap.size ct' mt' ad' am oa x' H1 → va_S (fun q => s.heap.size ≤ q) s.heap H1 locs1 → lv_has ls1 8 [(0, .ref b), (1, .ref (ad' 0)), (2, .ref (am 0)), (3, .ref oa), (4, .int (nI (6 * j)))] → W p l e room_1 s m #[Value.ref b] below meth c H1 locs1 (cells + 2) (slots + 2054) Q (F0 m 732 ls1 [])) :
    W p l e room_1 s m #[Value.ref b] below meth c H locs cells slots Q (F0 m 324 ls []) := by
  obtain ⟨hx, hb, hml, hown, hts⟩ := id F
  have hz := hS.1
  have hbA : ¬ (fun q : Nat => s.heap.size ≤ q) b := Nat.not_le.mpr hbl
  have g1 : 6 * j + 1 < L := by omega
  have g2 : 6 * j + 2 < L := by omega
  have g3 : 6 * j + 3 < L := by omega
  obtain ⟨k, o, r, ct', mt', hk3, hko, hR', hH, hM⟩ := st_append (l := l) (D := D) hl0 hn hR (xs (6 * j + 1)) (xs (6 * j + 2)) (xs (6 * j + 3))
  refine lv_aload_n hx hb d_Lw_law_324 rfl (lv_at hl 1 rfl) ?_
  refine sc_ld (i := 6 * j) (a := 1) hx hb hS0 hbl hbA hS hL31 g1 (by decide) (lv_at hl 0 rfl) (lv_at hl 4 rfl) d_Lw_law_325 d_Lw_law_326 d_Lw_law_328 d_Lw_law_329 d_Lw_law_330 ?_
  refine sc_ld (i := 6 * j) (a := 2) hx hb hS0 hbl hbA hS hL31 g2 (by decide) (lv_at hl 0 rfl) (lv_at hl 4 rfl) d_Lw_law_331 d_Lw_law_332 d_Lw_law_334 d_Lw_law_335 d_Lw_law_336 ?_
  refine sc_ld (i := 6 * j) (a := 3) hx hb hS0 hbl hbA hS hL31 g3 (by decide) (lv_at hl 0 rfl) (lv_at hl 4 rfl) d_Lw_law_337 d_Lw_law_338 d_Lw_law_340 d_Lw_law_341 d_Lw_law_342 ?_
  refine lv_aload_n hx hb d_Lw_law_343 rfl (lv_at hl 3 rfl) ?_
  refine call_H (As := [.ref (ad 0), .int (xs (6 * j + 1)), .int (xs (6 * j + 2)), .int (xs (6 * j + 3)), .ref oa]) (rest := []) F hK hX hNC (hH ad oa x sa s.heap.size) km_Lw_71 kt_Lw_append k0_Lw kc_Lw_append kd_Lw_append ⟨(Nat.le_of_ble_eq_true rfl), (Nat.le_of_ble_eq_true rfl)⟩ hI.1.1 hI.2.1.1 hI.2.2.2.1 hI.1.2.2 hI.2.2.1.2.1 hI.2.2.2.2.2 hl.1 rfl (Nat.le_of_ble_eq_true rfl) d_Lw_law_344 ⟨hc, hs⟩ hS (hI.A1 hz) (fun _ h => h) (fun ad' o' H1 locs1 hnx ho hP1 hO1 hk1 hS1 => ?_)
  have hI1 := hI.hlp hz hnx hP1 hO1 hk1
  have e0 : ad' 0 = ad 0 := hnx.1 0 (by decide)
  refine lv_istore (lv' := [(5, .int (nI k)), (0, .ref b), (1, .ref (ad 0)), (2, .ref (am 0)), (3, .ref oa), (4, .int (nI (6 * j)))]) hx hb d_Lw_law_347 hl (by decide) rfl (fun ls hl => ?_)
  refine lv_aload_n hx hb d_Lw_law_349 rfl (lv_at hl 3 rfl) ?_
  refine sc_ld (i := 6 * j) (a := 1) hx hb hS0 hbl hbA hS1 hL31 g1 (by decide) (lv_at hl 1 rfl) (lv_at hl 5 rfl) d_Lw_law_350 d_Lw_law_351 d_Lw_law_353 d_Lw_law_354 d_Lw_law_355 ?_
  refine sc_ld (i := 6 * j) (a := 2) hx hb hS0 hbl hbA hS1 hL31 g2 (by decide) (lv_at hl 1 rfl) (lv_at hl 5 rfl) d_Lw_law_356 d_Lw_law_357 d_Lw_law_359 d_Lw_law_360 d_Lw_law_361 ?_
  refine sc_ld (i := 6 * j) (a := 3) hx hb hS0 hbl hbA hS1 hL31 g3 (by decide) (lv_at hl 1 rfl) (lv_at hl 5 rfl) d_Lw_law_362 d_Lw_law_363 d_Lw_law_365 d_Lw_law_366 d_Lw_law_367 ?_
  obtain ⟨fm, hm0⟩ := hR.m0 am
  refine call_I (As := [.int (xs (6 * j + 1)), .int (xs (6 * j + 2)), .int (xs (6 * j + 3))]) (rest := []) (b := am 0) F hK (hM am) km_Lw_74 ki_Mo_append ks_Mo_append k0_Mo kc_Mo_append kd_Mo_append ⟨(Nat.le_of_ble_eq_true rfl), (Nat.le_of_ble_eq_true rfl)⟩ (nw_recv hK.k hI1.1.2.1 (i := 0) (by decide) hm0 rfl) hI1.1.2.1 hI1.2.1.2 hl.1 rfl (Nat.le_of_ble_eq_true rfl) d_Lw_law_368 ⟨(by show cells + 2 + 0 ≤ _; exact hc), (by show slots + 2054 + 0 ≤ _; exact hs)⟩ hS1 (hI1.A2 hS1.1) (fun H2 locs2 hP2 hk2 hS2 => ?_)
  refine W.widen (k := cells + 2) (n := slots + 2054) (Nat.le_refl _) (Nat.le_refl _) ?_
  have hI2 := hI1.mdl (mt' := mt') hP2 hk2
  refine lv_istore (lv' := [(6, .int r), (5, .int (nI k)), (0, .ref b), (1, .ref (ad 0)), (2, .ref (am 0)), (3, .ref oa), (4, .int (nI (6 * j)))]) hx hb d_Lw_law_371 hl (by decide) rfl (fun ls hl => ?_)
  refine lv_aload_n hx hb d_Lw_law_373 rfl (lv_at hl 4 rfl) ?_
  obtain ⟨fm2, hm2⟩ := hR'.m0 am
  refine call_R (As := []) (rest := []) (b := am 0) F hK (hR'.thr l D am) km_Lw_59 ki_Mo_thrown ks_Mo_thrown k0_Mo kc_Mo_thrown kd_Mo_thrown ⟨(Nat.le_of_ble_eq_true rfl), (Nat.le_of_ble_eq_true rfl)⟩ (nw_recv hK.k hI2.1.2.1 (i := 0) (by decide) hm2 rfl) hI2.1.2.1 hI2.2.1.2 hl.1 rfl (Nat.le_of_ble_eq_true rfl) d_Lw_law_374 ⟨(by show cells + 2 + 0 ≤ _; exact hc), (by show slots + 2054 + 0 ≤ _; exact hs)⟩ hS2 (fun H3 locs3 hall hS3 => ?_)
  refine W.widen (k := cells + 2) (n := slots + 2054) (Nat.le_refl _) (Nat.le_refl _) ?_
  have hI3 := hI2.all hall
  refine lv_iload hx hb d_Lw_law_377 (lv_at hl 1 rfl) ?_
  refine lv_icmp_eq (tgt := 384) hx hb d_Lw_law_379 (by decide) (fun _ => ?_) (fun h => absurd rfl h)
  refine lv_iload hx hb d_Lw_law_384 (lv_at hl 1 rfl) ?_
  have hend : W p l e room_1 s m #[Value.ref b] below meth c H3 locs3 (cells + 2) (slots + 2054) Q (F0 m 401 ls []) := by
    refine lv_goto (tgt := 732) hx hb d_Lw_law_401 (by decide) ?_
    exact kk ct' mt' k ad' o' H3 locs3 ls hR' hI3 hS3 (by rw [e0]; exact lv_sub hl [2, 3, 4, 5, 6] rfl)
  refine lv_if_ne (tgt := 401) hx hb d_Lw_law_386 (by decide) (fun _ => hend) (fun h => ?_)
  have hk0 : k = 0 := (nI_z0 (by omega)).mp h
  refine lv_aload_n hx hb d_Lw_law_389 rfl (lv_at hl 5 rfl) ?_
  refine lv_iconst (v := nI 0) hx hb d_Lw_law_390 (by decide) ?_
  refine nwo_lald hx hb hK hI3.1.2.2 d_Lw_law_391 ?_
  refine lv_iload hx hb d_Lw_law_392 (lv_at hl 0 rfl) ?_
  refine lv_i2l hx hb d_Lw_law_394 rfl ?_
  refine W.lcmp hx hb d_Lw_law_395 ?_
  exact lv_if_eq (tgt := 401) hx hb d_Lw_law_396 (by decide) (fun _ => hend) (fun h => absurd ((lg_cmp_eq _ _).mpr ((ho hk0).trans (hko hk0))) h)
set_option maxRecDepth 100000 in
set_option maxHeartbeats 4000000 in
theorem lc_retire {p : Program} {l : Launch} {e : Env} {s : State} {m : MethodId} {below : List Frame} {meth : Method} {c : Code} {H : Heap} {locs : List Loc} {cells slots : Nat} {Q : State → Prop} {ls : Array Slot} {D : va_G} {cy : Nat → ClassId} {b L j k0 oa : Nat} {xs : Nat → Int32} {sa ad am : Nat → Nat} {x : Int64} {ct mt : (Nat → Nat) → Nat → va_E}
    (F : CallFix p m c code 8 s #[Value.ref b] TG R_Lw) (hK : KN D cy s) (hX : KX sa s.heap.size s) (hNC : NC s) (hl0 : l.stackTraces = false) (hS0 : va_X b L xs s s.heap) (hbl : b < s.heap.size) (hL31 : L < 2 ^ 31) (hj : 6 * j + 6 ≤ L) (hn : j < 512)
    (hR : REL cy j ct mt k0) (hI : LWI D cy s.heap.size ct mt ad am oa x H) (hS : va_S (fun q => s.heap.size ≤ q) s.heap H locs) (hl : lv_has ls 8 [(0, .ref b), (1, .ref (ad 0)), (2, .ref (am 0)), (3, .ref oa), (4, .int (nI (6 * j)))]) (hc : cells + 2 ≤ room_1.cells) (hs : slots + 2054 ≤ room_1.slots)
    (kk : ∀ (ct' mt' : (Nat → Nat) → Nat → va_E) (k' : Nat) (ad' : Nat → Nat) (x' : Int64) (H1 : Heap) (locs1 : List Loc) (ls1 : Array Slot), REL cy (j + 1) ct' mt' k' → LWI D cy s.heap.size ct' mt' ad' am oa x' H1 → va_S (fun q => s.heap.size ≤ q) s.heap H1 locs1 → lv_has ls1 8 [(0, .ref b), (1, .ref (ad' 0)), (2, .ref (am 0)), (3, .ref oa), (4, .int (nI (6 * j)))] → W p l e room_1 s m #[Value.ref b] below meth c H1 locs1 (cells + 2) (slots + 2054) Q (F0 m 732 ls1 [])) :
    W p l e room_1 s m #[Value.ref b] below meth c H locs cells slots Q (F0 m 404 ls []) := by
  obtain ⟨hx, hb, hml, hown, hts⟩ := id F
  have hz := hS.1
  have hbA : ¬ (fun q : Nat => s.heap.size ≤ q) b := Nat.not_le.mpr hbl
  have g1 : 6 * j + 1 < L := by omega
  obtain ⟨k, o, r, ct', mt', hk3, hko, hR', hH, hM⟩ := st_retire (l := l) (D := D) hl0 hn hR (xs (6 * j + 1))
  refine lv_aload_n hx hb d_Lw_law_404 rfl (lv_at hl 1 rfl) ?_
  refine sc_ld (i := 6 * j) (a := 1) hx hb hS0 hbl hbA hS hL31 g1 (by decide) (lv_at hl 0 rfl) (lv_at hl 4 rfl) d_Lw_law_405 d_Lw_law_406 d_Lw_law_408 d_Lw_law_409 d_Lw_law_410 ?_
  refine lv_aload_n hx hb d_Lw_law_411 rfl (lv_at hl 3 rfl) ?_
  refine call_H (As := [.ref (ad 0), .int (xs (6 * j + 1)), .ref oa]) (rest := []) F hK hX hNC (hH ad oa x sa s.heap.size) km_Lw_75 kt_Lw_retire k0_Lw kc_Lw_retire kd_Lw_retire ⟨(Nat.le_of_ble_eq_true rfl), (Nat.le_of_ble_eq_true rfl)⟩ hI.1.1 hI.2.1.1 hI.2.2.2.1 hI.1.2.2 hI.2.2.1.2.1 hI.2.2.2.2.2 hl.1 rfl (Nat.le_of_ble_eq_true rfl) d_Lw_law_412 ⟨hc, hs⟩ hS (hI.A1 hz) (fun _ h => h) (fun ad' o' H1 locs1 hnx ho hP1 hO1 hk1 hS1 => ?_)
  have hI1 := hI.hlp hz hnx hP1 hO1 hk1
  have e0 : ad' 0 = ad 0 := hnx.1 0 (by decide)
  refine lv_istore (lv' := [(5, .int (nI k)), (0, .ref b), (1, .ref (ad 0)), (2, .ref (am 0)), (3, .ref oa), (4, .int (nI (6 * j)))]) hx hb d_Lw_law_415 hl (by decide) rfl (fun ls hl => ?_)
  refine lv_aload_n hx hb d_Lw_law_417 rfl (lv_at hl 3 rfl) ?_
  refine sc_ld (i := 6 * j) (a := 1) hx hb hS0 hbl hbA hS1 hL31 g1 (by decide) (lv_at hl 1 rfl) (lv_at hl 5 rfl) d_Lw_law_418 d_Lw_law_419 d_Lw_law_421 d_Lw_law_422 d_Lw_law_423 ?_
  obtain ⟨fm, hm0⟩ := hR.m0 am
  refine call_I (As := [.int (xs (6 * j + 1))]) (rest := []) (b := am 0) F hK (hM am) km_Lw_77 ki_Mo_retire ks_Mo_retire k0_Mo kc_Mo_retire kd_Mo_retire ⟨(Nat.le_of_ble_eq_true rfl), (Nat.le_of_ble_eq_true rfl)⟩ (nw_recv hK.k hI1.1.2.1 (i := 0) (by decide) hm0 rfl) hI1.1.2.1 hI1.2.1.2 hl.1 rfl (Nat.le_of_ble_eq_true rfl) d_Lw_law_424 ⟨(by show cells + 2 + 0 ≤ _; exact hc), (by show slots + 2054 + 0 ≤ _; exact hs)⟩ hS1 (hI1.A2 hS1.1) (fun H2 locs2 hP2 hk2 hS2 => ?_)
  refine W.widen (k := cells + 2) (n := slots + 2054) (Nat.le_refl _) (Nat.le_refl _) ?_
  have hI2 := hI1.mdl (mt' := mt') hP2 hk2
  refine lv_istore (lv' := [(6, .int r), (5, .int (nI k)), (0, .ref b), (1, .ref (ad 0)), (2, .ref (am 0)), (3, .ref oa), (4, .int (nI (6 * j)))]) hx hb d_Lw_law_427 hl (by decide) rfl (fun ls hl => ?_)
  refine lv_aload_n hx hb d_Lw_law_429 rfl (lv_at hl 4 rfl) ?_
  obtain ⟨fm2, hm2⟩ := hR'.m0 am
  refine call_R (As := []) (rest := []) (b := am 0) F hK (hR'.thr l D am) km_Lw_59 ki_Mo_thrown ks_Mo_thrown k0_Mo kc_Mo_thrown kd_Mo_thrown ⟨(Nat.le_of_ble_eq_true rfl), (Nat.le_of_ble_eq_true rfl)⟩ (nw_recv hK.k hI2.1.2.1 (i := 0) (by decide) hm2 rfl) hI2.1.2.1 hI2.2.1.2 hl.1 rfl (Nat.le_of_ble_eq_true rfl) d_Lw_law_430 ⟨(by show cells + 2 + 0 ≤ _; exact hc), (by show slots + 2054 + 0 ≤ _; exact hs)⟩ hS2 (fun H3 locs3 hall hS3 => ?_)
  refine W.widen (k := cells + 2) (n := slots + 2054) (Nat.le_refl _) (Nat.le_refl _) ?_
  have hI3 := hI2.all hall
  refine lv_iload hx hb d_Lw_law_433 (lv_at hl 1 rfl) ?_
  refine lv_icmp_eq (tgt := 440) hx hb d_Lw_law_435 (by decide) (fun _ => ?_) (fun h => absurd rfl h)
  refine lv_iload hx hb d_Lw_law_440 (lv_at hl 1 rfl) ?_
  have hend : W p l e room_1 s m #[Value.ref b] below meth c H3 locs3 (cells + 2) (slots + 2054) Q (F0 m 457 ls []) := by
    refine lv_goto (tgt := 732) hx hb d_Lw_law_457 (by decide) ?_
    exact kk ct' mt' k ad' o' H3 locs3 ls hR' hI3 hS3 (by rw [e0]; exact lv_sub hl [2, 3, 4, 5, 6] rfl)
  refine lv_if_ne (tgt := 457) hx hb d_Lw_law_442 (by decide) (fun _ => hend) (fun h => ?_)
  have hk0 : k = 0 := (nI_z0 (by omega)).mp h
  refine lv_aload_n hx hb d_Lw_law_445 rfl (lv_at hl 5 rfl) ?_
  refine lv_iconst (v := nI 0) hx hb d_Lw_law_446 (by decide) ?_
  refine nwo_lald hx hb hK hI3.1.2.2 d_Lw_law_447 ?_
  refine lv_iload hx hb d_Lw_law_448 (lv_at hl 0 rfl) ?_
  refine lv_i2l hx hb d_Lw_law_450 rfl ?_
  refine W.lcmp hx hb d_Lw_law_451 ?_
  exact lv_if_eq (tgt := 457) hx hb d_Lw_law_452 (by decide) (fun _ => hend) (fun h => absurd ((lg_cmp_eq _ _).mpr ((ho hk0).trans (hko hk0))) h)
set_option maxRecDepth 100000 in
set_option maxHeartbeats 4000000 in
theorem lc_cut {p : Program} {l : Launch} {e : Env} {s : State} {m : MethodId} {below : List Frame} {meth : Method} {c : Code} {H : Heap} {locs : List Loc} {cells slots : Nat} {Q : State → Prop} {ls : Array Slot} {D : va_G} {cy : Nat → ClassId} {b L j k0 oa : Nat} {xs : Nat → Int32} {sa ad am : Nat → Nat} {x : Int64} {ct mt : (Nat → Nat) → Nat → va_E}
    (F : CallFix p m c code 8 s #[Value.ref b] TG R_Lw) (hK : KN D cy s) (hX : KX sa s.heap.size s) (hNC : NC s) (hl0 : l.stackTraces = false) (hS0 : va_X b L xs s s.heap) (hbl : b < s.heap.size) (hL31 : L < 2 ^ 31) (hj : 6 * j + 6 ≤ L) (hn : j < 512)
    (hR : REL cy j ct mt k0) (hI : LWI D cy s.heap.size ct mt ad am oa x H) (hS : va_S (fun q => s.heap.size ≤ q) s.heap H locs) (hl : lv_has ls 8 [(0, .ref b), (1, .ref (ad 0)), (2, .ref (am 0)), (3, .ref oa), (4, .int (nI (6 * j)))]) (hc : cells + 2 ≤ room_1.cells) (hs : slots + 2054 ≤ room_1.slots)
    (kk : ∀ (ct' mt' : (Nat → Nat) → Nat → va_E) (k' : Nat) (ad' : Nat → Nat) (x' : Int64) (H1 : Heap) (locs1 : List Loc) (ls1 : Array Slot), REL cy (j + 1) ct' mt' k' → LWI D cy s.heap.size ct' mt' ad' am oa x' H1 → va_S (fun q => s.heap.size ≤ q) s.heap H1 locs1 → lv_has ls1 8 [(0, .ref b), (1, .ref (ad' 0)), (2, .ref (am 0)), (3, .ref oa), (4, .int (nI (6 * j)))] → W p l e room_1 s m #[Value.ref b] below meth c H1 locs1 (cells + 2) (slots + 2054) Q (F0 m 732 ls1 [])) :
    W p l e room_1 s m #[Value.ref b] below meth c H locs cells slots Q (F0 m 460 ls []) := by
  obtain ⟨hx, hb, hml, hown, hts⟩ := id F
  have hz := hS.1
  have hbA : ¬ (fun q : Nat => s.heap.size ≤ q) b := Nat.not_le.mpr hbl
  have g1 : 6 * j + 1 < L := by omega
  have g2 : 6 * j + 2 < L := by omega
  obtain ⟨k, o, r, ct', mt', hk3, hko, hR', hH, hM⟩ := st_cut (l := l) (D := D) hl0 hR (xs (6 * j + 1)) (xs (6 * j + 2))
  refine lv_aload_n hx hb d_Lw_law_460 rfl (lv_at hl 1 rfl) ?_
  refine sc_ld (i := 6 * j) (a := 1) hx hb hS0 hbl hbA hS hL31 g1 (by decide) (lv_at hl 0 rfl) (lv_at hl 4 rfl) d_Lw_law_461 d_Lw_law_462 d_Lw_law_464 d_Lw_law_465 d_Lw_law_466 ?_
  refine sc_ld (i := 6 * j) (a := 2) hx hb hS0 hbl hbA hS hL31 g2 (by decide) (lv_at hl 0 rfl) (lv_at hl 4 rfl) d_Lw_law_467 d_Lw_law_468 d_Lw_law_470 d_Lw_law_471 d_Lw_law_472 ?_
  refine lv_aload_n hx hb d_Lw_law_473 rfl (lv_at hl 3 rfl) ?_
  refine call_H (As := [.ref (ad 0), .int (xs (6 * j + 1)), .int (xs (6 * j + 2)), .ref oa]) (rest := []) F hK hX hNC (hH ad oa x sa s.heap.size) km_Lw_78 kt_Lw_cut k0_Lw kc_Lw_cut kd_Lw_cut ⟨(Nat.le_of_ble_eq_true rfl), (Nat.le_of_ble_eq_true rfl)⟩ hI.1.1 hI.2.1.1 hI.2.2.2.1 hI.1.2.2 hI.2.2.1.2.1 hI.2.2.2.2.2 hl.1 rfl (Nat.le_of_ble_eq_true rfl) d_Lw_law_474 ⟨hc, hs⟩ hS (hI.A1 hz) (fun _ h => h) (fun ad' o' H1 locs1 hnx ho hP1 hO1 hk1 hS1 => ?_)
  have hI1 := hI.hlp hz hnx hP1 hO1 hk1
  have e0 : ad' 0 = ad 0 := hnx.1 0 (by decide)
  refine lv_istore (lv' := [(5, .int (nI k)), (0, .ref b), (1, .ref (ad 0)), (2, .ref (am 0)), (3, .ref oa), (4, .int (nI (6 * j)))]) hx hb d_Lw_law_477 hl (by decide) rfl (fun ls hl => ?_)
  refine lv_aload_n hx hb d_Lw_law_479 rfl (lv_at hl 3 rfl) ?_
  refine sc_ld (i := 6 * j) (a := 1) hx hb hS0 hbl hbA hS1 hL31 g1 (by decide) (lv_at hl 1 rfl) (lv_at hl 5 rfl) d_Lw_law_480 d_Lw_law_481 d_Lw_law_483 d_Lw_law_484 d_Lw_law_485 ?_
  refine sc_ld (i := 6 * j) (a := 2) hx hb hS0 hbl hbA hS1 hL31 g2 (by decide) (lv_at hl 1 rfl) (lv_at hl 5 rfl) d_Lw_law_486 d_Lw_law_487 d_Lw_law_489 d_Lw_law_490 d_Lw_law_491 ?_
  obtain ⟨fm, hm0⟩ := hR.m0 am
  refine call_I (As := [.int (xs (6 * j + 1)), .int (xs (6 * j + 2))]) (rest := []) (b := am 0) F hK (hM am) km_Lw_80 ki_Mo_cut ks_Mo_cut k0_Mo kc_Mo_cut kd_Mo_cut ⟨(Nat.le_of_ble_eq_true rfl), (Nat.le_of_ble_eq_true rfl)⟩ (nw_recv hK.k hI1.1.2.1 (i := 0) (by decide) hm0 rfl) hI1.1.2.1 hI1.2.1.2 hl.1 rfl (Nat.le_of_ble_eq_true rfl) d_Lw_law_492 ⟨(by show cells + 2 + 0 ≤ _; exact hc), (by show slots + 2054 + 0 ≤ _; exact hs)⟩ hS1 (hI1.A2 hS1.1) (fun H2 locs2 hP2 hk2 hS2 => ?_)
  refine W.widen (k := cells + 2) (n := slots + 2054) (Nat.le_refl _) (Nat.le_refl _) ?_
  have hI2 := hI1.mdl (mt' := mt') hP2 hk2
  refine lv_istore (lv' := [(6, .int r), (5, .int (nI k)), (0, .ref b), (1, .ref (ad 0)), (2, .ref (am 0)), (3, .ref oa), (4, .int (nI (6 * j)))]) hx hb d_Lw_law_495 hl (by decide) rfl (fun ls hl => ?_)
  refine lv_aload_n hx hb d_Lw_law_497 rfl (lv_at hl 4 rfl) ?_
  obtain ⟨fm2, hm2⟩ := hR'.m0 am
  refine call_R (As := []) (rest := []) (b := am 0) F hK (hR'.thr l D am) km_Lw_59 ki_Mo_thrown ks_Mo_thrown k0_Mo kc_Mo_thrown kd_Mo_thrown ⟨(Nat.le_of_ble_eq_true rfl), (Nat.le_of_ble_eq_true rfl)⟩ (nw_recv hK.k hI2.1.2.1 (i := 0) (by decide) hm2 rfl) hI2.1.2.1 hI2.2.1.2 hl.1 rfl (Nat.le_of_ble_eq_true rfl) d_Lw_law_498 ⟨(by show cells + 2 + 0 ≤ _; exact hc), (by show slots + 2054 + 0 ≤ _; exact hs)⟩ hS2 (fun H3 locs3 hall hS3 => ?_)
  refine W.widen (k := cells + 2) (n := slots + 2054) (Nat.le_refl _) (Nat.le_refl _) ?_
  have hI3 := hI2.all hall
  refine lv_iload hx hb d_Lw_law_501 (lv_at hl 1 rfl) ?_
  refine lv_icmp_eq (tgt := 508) hx hb d_Lw_law_503 (by decide) (fun _ => ?_) (fun h => absurd rfl h)
  refine lv_iload hx hb d_Lw_law_508 (lv_at hl 1 rfl) ?_
  have hend : W p l e room_1 s m #[Value.ref b] below meth c H3 locs3 (cells + 2) (slots + 2054) Q (F0 m 525 ls []) := by
    refine lv_goto (tgt := 732) hx hb d_Lw_law_525 (by decide) ?_
    exact kk ct' mt' k ad' o' H3 locs3 ls hR' hI3 hS3 (by rw [e0]; exact lv_sub hl [2, 3, 4, 5, 6] rfl)
  refine lv_if_ne (tgt := 525) hx hb d_Lw_law_510 (by decide) (fun _ => hend) (fun h => ?_)
  have hk0 : k = 0 := (nI_z0 (by omega)).mp h
  refine lv_aload_n hx hb d_Lw_law_513 rfl (lv_at hl 5 rfl) ?_
  refine lv_iconst (v := nI 0) hx hb d_Lw_law_514 (by decide) ?_
  refine nwo_lald hx hb hK hI3.1.2.2 d_Lw_law_515 ?_
  refine lv_iload hx hb d_Lw_law_516 (lv_at hl 0 rfl) ?_
  refine lv_i2l hx hb d_Lw_law_518 rfl ?_
  refine W.lcmp hx hb d_Lw_law_519 ?_
  exact lv_if_eq (tgt := 525) hx hb d_Lw_law_520 (by decide) (fun _ => hend) (fun h => absurd ((lg_cmp_eq _ _).mpr ((ho hk0).trans (hko hk0))) h)
set_option maxRecDepth 100000 in
set_option maxHeartbeats 4000000 in
theorem lc_record {p : Program} {l : Launch} {e : Env} {s : State} {m : MethodId} {below : List Frame} {meth : Method} {c : Code} {H : Heap} {locs : List Loc} {cells slots : Nat} {Q : State → Prop} {ls : Array Slot} {D : va_G} {cy : Nat → ClassId} {b L j k0 oa : Nat} {xs : Nat → Int32} {sa ad am : Nat → Nat} {x : Int64} {ct mt : (Nat → Nat) → Nat → va_E}
    (F : CallFix p m c code 8 s #[Value.ref b] TG R_Lw) (hK : KN D cy s) (hX : KX sa s.heap.size s) (hNC : NC s) (hl0 : l.stackTraces = false) (hS0 : va_X b L xs s s.heap) (hbl : b < s.heap.size) (hL31 : L < 2 ^ 31) (hj : 6 * j + 6 ≤ L) (hn : j < 512)
    (hR : REL cy j ct mt k0) (hI : LWI D cy s.heap.size ct mt ad am oa x H) (hS : va_S (fun q => s.heap.size ≤ q) s.heap H locs) (hl : lv_has ls 8 [(0, .ref b), (1, .ref (ad 0)), (2, .ref (am 0)), (3, .ref oa), (4, .int (nI (6 * j)))]) (hc : cells + 2 ≤ room_1.cells) (hs : slots + 2054 ≤ room_1.slots)
    (kk : ∀ (ct' mt' : (Nat → Nat) → Nat → va_E) (k' : Nat) (ad' : Nat → Nat) (x' : Int64) (H1 : Heap) (locs1 : List Loc) (ls1 : Array Slot), REL cy (j + 1) ct' mt' k' → LWI D cy s.heap.size ct' mt' ad' am oa x' H1 → va_S (fun q => s.heap.size ≤ q) s.heap H1 locs1 → lv_has ls1 8 [(0, .ref b), (1, .ref (ad' 0)), (2, .ref (am 0)), (3, .ref oa), (4, .int (nI (6 * j)))] → W p l e room_1 s m #[Value.ref b] below meth c H1 locs1 (cells + 2) (slots + 2054) Q (F0 m 732 ls1 [])) :
    W p l e room_1 s m #[Value.ref b] below meth c H locs cells slots Q (F0 m 541 ls []) := by
  obtain ⟨hx, hb, hml, hown, hts⟩ := id F
  have hz := hS.1
  have hbA : ¬ (fun q : Nat => s.heap.size ≤ q) b := Nat.not_le.mpr hbl
  have g1 : 6 * j + 1 < L := by omega
  have g2 : 6 * j + 2 < L := by omega
  obtain ⟨k, o, r, ct', mt', hk3, hko, hR', hH, hM⟩ := st_record (l := l) (D := D) hl0 hn hR (xs (6 * j + 1)) (xs (6 * j + 2))
  refine lv_aload_n hx hb d_Lw_law_541 rfl (lv_at hl 1 rfl) ?_
  refine sc_ld (i := 6 * j) (a := 1) hx hb hS0 hbl hbA hS hL31 g1 (by decide) (lv_at hl 0 rfl) (lv_at hl 4 rfl) d_Lw_law_542 d_Lw_law_543 d_Lw_law_545 d_Lw_law_546 d_Lw_law_547 ?_
  refine sc_ld (i := 6 * j) (a := 2) hx hb hS0 hbl hbA hS hL31 g2 (by decide) (lv_at hl 0 rfl) (lv_at hl 4 rfl) d_Lw_law_548 d_Lw_law_549 d_Lw_law_551 d_Lw_law_552 d_Lw_law_553 ?_
  refine lv_aload_n hx hb d_Lw_law_554 rfl (lv_at hl 3 rfl) ?_
  refine call_H (As := [.ref (ad 0), .int (xs (6 * j + 1)), .int (xs (6 * j + 2)), .ref oa]) (rest := []) F hK hX hNC (hH ad oa x sa s.heap.size) km_Lw_85 kt_Lw_record k0_Lw kc_Lw_record kd_Lw_record ⟨(Nat.le_of_ble_eq_true rfl), (Nat.le_of_ble_eq_true rfl)⟩ hI.1.1 hI.2.1.1 hI.2.2.2.1 hI.1.2.2 hI.2.2.1.2.1 hI.2.2.2.2.2 hl.1 rfl (Nat.le_of_ble_eq_true rfl) d_Lw_law_555 ⟨hc, hs⟩ hS (hI.A1 hz) (fun _ h => h) (fun ad' o' H1 locs1 hnx ho hP1 hO1 hk1 hS1 => ?_)
  have hI1 := hI.hlp hz hnx hP1 hO1 hk1
  have e0 : ad' 0 = ad 0 := hnx.1 0 (by decide)
  refine lv_istore (lv' := [(5, .int (nI k)), (0, .ref b), (1, .ref (ad 0)), (2, .ref (am 0)), (3, .ref oa), (4, .int (nI (6 * j)))]) hx hb d_Lw_law_558 hl (by decide) rfl (fun ls hl => ?_)
  refine lv_aload_n hx hb d_Lw_law_560 rfl (lv_at hl 3 rfl) ?_
  refine sc_ld (i := 6 * j) (a := 1) hx hb hS0 hbl hbA hS1 hL31 g1 (by decide) (lv_at hl 1 rfl) (lv_at hl 5 rfl) d_Lw_law_561 d_Lw_law_562 d_Lw_law_564 d_Lw_law_565 d_Lw_law_566 ?_
  refine sc_ld (i := 6 * j) (a := 2) hx hb hS0 hbl hbA hS1 hL31 g2 (by decide) (lv_at hl 1 rfl) (lv_at hl 5 rfl) d_Lw_law_567 d_Lw_law_568 d_Lw_law_570 d_Lw_law_571 d_Lw_law_572 ?_
  obtain ⟨fm, hm0⟩ := hR.m0 am
  refine call_I (As := [.int (xs (6 * j + 1)), .int (xs (6 * j + 2))]) (rest := []) (b := am 0) F hK (hM am) km_Lw_87 ki_Mo_record ks_Mo_record k0_Mo kc_Mo_record kd_Mo_record ⟨(Nat.le_of_ble_eq_true rfl), (Nat.le_of_ble_eq_true rfl)⟩ (nw_recv hK.k hI1.1.2.1 (i := 0) (by decide) hm0 rfl) hI1.1.2.1 hI1.2.1.2 hl.1 rfl (Nat.le_of_ble_eq_true rfl) d_Lw_law_573 ⟨(by show cells + 2 + 0 ≤ _; exact hc), (by show slots + 2054 + 0 ≤ _; exact hs)⟩ hS1 (hI1.A2 hS1.1) (fun H2 locs2 hP2 hk2 hS2 => ?_)
  refine W.widen (k := cells + 2) (n := slots + 2054) (Nat.le_refl _) (Nat.le_refl _) ?_
  have hI2 := hI1.mdl (mt' := mt') hP2 hk2
  refine lv_istore (lv' := [(6, .int r), (5, .int (nI k)), (0, .ref b), (1, .ref (ad 0)), (2, .ref (am 0)), (3, .ref oa), (4, .int (nI (6 * j)))]) hx hb d_Lw_law_576 hl (by decide) rfl (fun ls hl => ?_)
  refine lv_aload_n hx hb d_Lw_law_578 rfl (lv_at hl 4 rfl) ?_
  obtain ⟨fm2, hm2⟩ := hR'.m0 am
  refine call_R (As := []) (rest := []) (b := am 0) F hK (hR'.thr l D am) km_Lw_59 ki_Mo_thrown ks_Mo_thrown k0_Mo kc_Mo_thrown kd_Mo_thrown ⟨(Nat.le_of_ble_eq_true rfl), (Nat.le_of_ble_eq_true rfl)⟩ (nw_recv hK.k hI2.1.2.1 (i := 0) (by decide) hm2 rfl) hI2.1.2.1 hI2.2.1.2 hl.1 rfl (Nat.le_of_ble_eq_true rfl) d_Lw_law_579 ⟨(by show cells + 2 + 0 ≤ _; exact hc), (by show slots + 2054 + 0 ≤ _; exact hs)⟩ hS2 (fun H3 locs3 hall hS3 => ?_)
  refine W.widen (k := cells + 2) (n := slots + 2054) (Nat.le_refl _) (Nat.le_refl _) ?_
  have hI3 := hI2.all hall
  refine lv_iload hx hb d_Lw_law_582 (lv_at hl 1 rfl) ?_
  refine lv_icmp_eq (tgt := 589) hx hb d_Lw_law_584 (by decide) (fun _ => ?_) (fun h => absurd rfl h)
  refine lv_iload hx hb d_Lw_law_589 (lv_at hl 1 rfl) ?_
  have hend : W p l e room_1 s m #[Value.ref b] below meth c H3 locs3 (cells + 2) (slots + 2054) Q (F0 m 606 ls []) := by
    refine lv_goto (tgt := 732) hx hb d_Lw_law_606 (by decide) ?_
    exact kk ct' mt' k ad' o' H3 locs3 ls hR' hI3 hS3 (by rw [e0]; exact lv_sub hl [2, 3, 4, 5, 6] rfl)
  refine lv_if_ne (tgt := 606) hx hb d_Lw_law_591 (by decide) (fun _ => hend) (fun h => ?_)
  have hk0 : k = 0 := (nI_z0 (by omega)).mp h
  refine lv_aload_n hx hb d_Lw_law_594 rfl (lv_at hl 5 rfl) ?_
  refine lv_iconst (v := nI 0) hx hb d_Lw_law_595 (by decide) ?_
  refine nwo_lald hx hb hK hI3.1.2.2 d_Lw_law_596 ?_
  refine lv_iload hx hb d_Lw_law_597 (lv_at hl 0 rfl) ?_
  refine lv_i2l hx hb d_Lw_law_599 rfl ?_
  refine W.lcmp hx hb d_Lw_law_600 ?_
  exact lv_if_eq (tgt := 606) hx hb d_Lw_law_601 (by decide) (fun _ => hend) (fun h => absurd ((lg_cmp_eq _ _).mpr ((ho hk0).trans (hko hk0))) h)
set_option maxRecDepth 100000 in
set_option maxHeartbeats 4000000 in
theorem lc_word {p : Program} {l : Launch} {e : Env} {s : State} {m : MethodId} {below : List Frame} {meth : Method} {c : Code} {H : Heap} {locs : List Loc} {cells slots : Nat} {Q : State → Prop} {ls : Array Slot} {D : va_G} {cy : Nat → ClassId} {b L j k0 oa : Nat} {xs : Nat → Int32} {sa ad am : Nat → Nat} {x : Int64} {ct mt : (Nat → Nat) → Nat → va_E}
    (F : CallFix p m c code 8 s #[Value.ref b] TG R_Lw) (hK : KN D cy s) (hX : KX sa s.heap.size s) (hNC : NC s) (hl0 : l.stackTraces = false) (hS0 : va_X b L xs s s.heap) (hbl : b < s.heap.size) (hL31 : L < 2 ^ 31) (hj : 6 * j + 6 ≤ L) (hn : j < 512)
    (hR : REL cy j ct mt k0) (hI : LWI D cy s.heap.size ct mt ad am oa x H) (hS : va_S (fun q => s.heap.size ≤ q) s.heap H locs) (hl : lv_has ls 8 [(0, .ref b), (1, .ref (ad 0)), (2, .ref (am 0)), (3, .ref oa), (4, .int (nI (6 * j)))]) (hc : cells + 2 ≤ room_1.cells) (hs : slots + 2054 ≤ room_1.slots)
    (kk : ∀ (ct' mt' : (Nat → Nat) → Nat → va_E) (k' : Nat) (ad' : Nat → Nat) (x' : Int64) (H1 : Heap) (locs1 : List Loc) (ls1 : Array Slot), REL cy (j + 1) ct' mt' k' → LWI D cy s.heap.size ct' mt' ad' am oa x' H1 → va_S (fun q => s.heap.size ≤ q) s.heap H1 locs1 → lv_has ls1 8 [(0, .ref b), (1, .ref (ad' 0)), (2, .ref (am 0)), (3, .ref oa), (4, .int (nI (6 * j)))] → W p l e room_1 s m #[Value.ref b] below meth c H1 locs1 (cells + 2) (slots + 2054) Q (F0 m 732 ls1 [])) :
    W p l e room_1 s m #[Value.ref b] below meth c H locs cells slots Q (F0 m 609 ls []) := by
  obtain ⟨hx, hb, hml, hown, hts⟩ := id F
  have hz := hS.1
  have hbA : ¬ (fun q : Nat => s.heap.size ≤ q) b := Nat.not_le.mpr hbl
  have g1 : 6 * j + 1 < L := by omega
  have g2 : 6 * j + 2 < L := by omega
  obtain ⟨k, o, r, ct', mt', hk3, hko, hR', hH, hM⟩ := st_word (l := l) (D := D) hl0 hn hR (xs (6 * j + 1)) (xs (6 * j + 2))
  refine lv_aload_n hx hb d_Lw_law_609 rfl (lv_at hl 1 rfl) ?_
  refine sc_ld (i := 6 * j) (a := 1) hx hb hS0 hbl hbA hS hL31 g1 (by decide) (lv_at hl 0 rfl) (lv_at hl 4 rfl) d_Lw_law_610 d_Lw_law_611 d_Lw_law_613 d_Lw_law_614 d_Lw_law_615 ?_
  refine sc_ld (i := 6 * j) (a := 2) hx hb hS0 hbl hbA hS hL31 g2 (by decide) (lv_at hl 0 rfl) (lv_at hl 4 rfl) d_Lw_law_616 d_Lw_law_617 d_Lw_law_619 d_Lw_law_620 d_Lw_law_621 ?_
  refine lv_aload_n hx hb d_Lw_law_622 rfl (lv_at hl 3 rfl) ?_
  refine call_H (As := [.ref (ad 0), .int (xs (6 * j + 1)), .int (xs (6 * j + 2)), .ref oa]) (rest := []) F hK hX hNC (hH ad oa x sa s.heap.size) km_Lw_88 kt_Lw_word k0_Lw kc_Lw_word kd_Lw_word ⟨(Nat.le_of_ble_eq_true rfl), (Nat.le_of_ble_eq_true rfl)⟩ hI.1.1 hI.2.1.1 hI.2.2.2.1 hI.1.2.2 hI.2.2.1.2.1 hI.2.2.2.2.2 hl.1 rfl (Nat.le_of_ble_eq_true rfl) d_Lw_law_623 ⟨hc, hs⟩ hS (hI.A1 hz) (fun _ h => h) (fun ad' o' H1 locs1 hnx ho hP1 hO1 hk1 hS1 => ?_)
  have hI1 := hI.hlp hz hnx hP1 hO1 hk1
  have e0 : ad' 0 = ad 0 := hnx.1 0 (by decide)
  refine lv_istore (lv' := [(5, .int (nI k)), (0, .ref b), (1, .ref (ad 0)), (2, .ref (am 0)), (3, .ref oa), (4, .int (nI (6 * j)))]) hx hb d_Lw_law_626 hl (by decide) rfl (fun ls hl => ?_)
  refine lv_aload_n hx hb d_Lw_law_628 rfl (lv_at hl 3 rfl) ?_
  refine sc_ld (i := 6 * j) (a := 1) hx hb hS0 hbl hbA hS1 hL31 g1 (by decide) (lv_at hl 1 rfl) (lv_at hl 5 rfl) d_Lw_law_629 d_Lw_law_630 d_Lw_law_632 d_Lw_law_633 d_Lw_law_634 ?_
  refine sc_ld (i := 6 * j) (a := 2) hx hb hS0 hbl hbA hS1 hL31 g2 (by decide) (lv_at hl 1 rfl) (lv_at hl 5 rfl) d_Lw_law_635 d_Lw_law_636 d_Lw_law_638 d_Lw_law_639 d_Lw_law_640 ?_
  obtain ⟨fm, hm0⟩ := hR.m0 am
  refine call_J (As := [.int (xs (6 * j + 1)), .int (xs (6 * j + 2))]) (rest := []) (b := am 0) F hK (hM am) km_Lw_90 ki_Mo_word ks_Mo_word k0_Mo kc_Mo_word kd_Mo_word ⟨(Nat.le_of_ble_eq_true rfl), (Nat.le_of_ble_eq_true rfl)⟩ (nw_recv hK.k hI1.1.2.1 (i := 0) (by decide) hm0 rfl) hI1.1.2.1 hI1.2.1.2 hl.1 rfl (Nat.le_of_ble_eq_true rfl) d_Lw_law_641 ⟨(by show cells + 2 + 0 ≤ _; exact hc), (by show slots + 2054 + 0 ≤ _; exact hs)⟩ hS1 (hI1.A2 hS1.1) (fun H2 locs2 hP2 hk2 hS2 => ?_)
  refine W.widen (k := cells + 2) (n := slots + 2054) (Nat.le_refl _) (Nat.le_refl _) ?_
  have hI2 := hI1.mdl (mt' := mt') hP2 hk2
  refine lv_lstore (lv' := [(6, .long r), (5, .int (nI k)), (0, .ref b), (1, .ref (ad 0)), (2, .ref (am 0)), (3, .ref oa), (4, .int (nI (6 * j)))]) hx hb d_Lw_law_644 hl (by decide) rfl (fun ls hl => ?_)
  refine lv_aload_n hx hb d_Lw_law_646 rfl (lv_at hl 4 rfl) ?_
  obtain ⟨fm2, hm2⟩ := hR'.m0 am
  refine call_R (As := []) (rest := []) (b := am 0) F hK (hR'.thr l D am) km_Lw_59 ki_Mo_thrown ks_Mo_thrown k0_Mo kc_Mo_thrown kd_Mo_thrown ⟨(Nat.le_of_ble_eq_true rfl), (Nat.le_of_ble_eq_true rfl)⟩ (nw_recv hK.k hI2.1.2.1 (i := 0) (by decide) hm2 rfl) hI2.1.2.1 hI2.2.1.2 hl.1 rfl (Nat.le_of_ble_eq_true rfl) d_Lw_law_647 ⟨(by show cells + 2 + 0 ≤ _; exact hc), (by show slots + 2054 + 0 ≤ _; exact hs)⟩ hS2 (fun H3 locs3 hall hS3 => ?_)
  refine W.widen (k := cells + 2) (n := slots + 2054) (Nat.le_refl _) (Nat.le_refl _) ?_
  have hI3 := hI2.all hall
  refine lv_iload hx hb d_Lw_law_650 (lv_at hl 1 rfl) ?_
  refine lv_icmp_eq (tgt := 657) hx hb d_Lw_law_652 (by decide) (fun _ => ?_) (fun h => absurd rfl h)
  refine lv_iload hx hb d_Lw_law_657 (lv_at hl 1 rfl) ?_
  have hend : W p l e room_1 s m #[Value.ref b] below meth c H3 locs3 (cells + 2) (slots + 2054) Q (F0 m 673 ls []) := by
    refine lv_goto (tgt := 732) hx hb d_Lw_law_673 (by decide) ?_
    exact kk ct' mt' k ad' o' H3 locs3 ls hR' hI3 hS3 (by rw [e0]; exact lv_sub hl [2, 3, 4, 5, 6] rfl)
  refine lv_if_ne (tgt := 673) hx hb d_Lw_law_659 (by decide) (fun _ => hend) (fun h => ?_)
  have hk0 : k = 0 := (nI_z0 (by omega)).mp h
  refine lv_aload_n hx hb d_Lw_law_662 rfl (lv_at hl 5 rfl) ?_
  refine lv_iconst (v := nI 0) hx hb d_Lw_law_663 (by decide) ?_
  refine nwo_lald hx hb hK hI3.1.2.2 d_Lw_law_664 ?_
  refine lv_lload hx hb d_Lw_law_665 (lv_at hl 0 rfl) ?_
  refine W.lcmp hx hb d_Lw_law_667 ?_
  exact lv_if_eq (tgt := 673) hx hb d_Lw_law_668 (by decide) (fun _ => hend) (fun h => absurd ((lg_cmp_eq _ _).mpr ((ho hk0).trans (hko hk0))) h)
set_option maxRecDepth 100000 in
set_option maxHeartbeats 4000000 in
theorem lc_count {p : Program} {l : Launch} {e : Env} {s : State} {m : MethodId} {below : List Frame} {meth : Method} {c : Code} {H : Heap} {locs : List Loc} {cells slots : Nat} {Q : State → Prop} {ls : Array Slot} {D : va_G} {cy : Nat → ClassId} {b L j k0 oa : Nat} {xs : Nat → Int32} {sa ad am : Nat → Nat} {x : Int64} {ct mt : (Nat → Nat) → Nat → va_E}
    (F : CallFix p m c code 8 s #[Value.ref b] TG R_Lw) (hK : KN D cy s) (hX : KX sa s.heap.size s) (hNC : NC s) (hl0 : l.stackTraces = false) (hS0 : va_X b L xs s s.heap) (hbl : b < s.heap.size) (hL31 : L < 2 ^ 31) (hj : 6 * j + 6 ≤ L) (hn : j < 512)
    (hR : REL cy j ct mt k0) (hI : LWI D cy s.heap.size ct mt ad am oa x H) (hS : va_S (fun q => s.heap.size ≤ q) s.heap H locs) (hl : lv_has ls 8 [(0, .ref b), (1, .ref (ad 0)), (2, .ref (am 0)), (3, .ref oa), (4, .int (nI (6 * j)))]) (hc : cells + 2 ≤ room_1.cells) (hs : slots + 2054 ≤ room_1.slots)
    (kk : ∀ (ct' mt' : (Nat → Nat) → Nat → va_E) (k' : Nat) (ad' : Nat → Nat) (x' : Int64) (H1 : Heap) (locs1 : List Loc) (ls1 : Array Slot), REL cy (j + 1) ct' mt' k' → LWI D cy s.heap.size ct' mt' ad' am oa x' H1 → va_S (fun q => s.heap.size ≤ q) s.heap H1 locs1 → lv_has ls1 8 [(0, .ref b), (1, .ref (ad' 0)), (2, .ref (am 0)), (3, .ref oa), (4, .int (nI (6 * j)))] → W p l e room_1 s m #[Value.ref b] below meth c H1 locs1 (cells + 2) (slots + 2054) Q (F0 m 732 ls1 [])) :
    W p l e room_1 s m #[Value.ref b] below meth c H locs cells slots Q (F0 m 676 ls []) := by
  obtain ⟨hx, hb, hml, hown, hts⟩ := id F
  have hz := hS.1
  have hbA : ¬ (fun q : Nat => s.heap.size ≤ q) b := Nat.not_le.mpr hbl
  have g1 : 6 * j + 1 < L := by omega
  obtain ⟨k, o, r, ct', mt', hk3, hko, hR', hH, hM⟩ := st_count (l := l) (D := D) hl0 hR (xs (6 * j + 1))
  refine lv_aload_n hx hb d_Lw_law_676 rfl (lv_at hl 1 rfl) ?_
  refine sc_ld (i := 6 * j) (a := 1) hx hb hS0 hbl hbA hS hL31 g1 (by decide) (lv_at hl 0 rfl) (lv_at hl 4 rfl) d_Lw_law_677 d_Lw_law_678 d_Lw_law_680 d_Lw_law_681 d_Lw_law_682 ?_
  refine lv_aload_n hx hb d_Lw_law_683 rfl (lv_at hl 3 rfl) ?_
  refine call_H (As := [.ref (ad 0), .int (xs (6 * j + 1)), .ref oa]) (rest := []) F hK hX hNC (hH ad oa x sa s.heap.size) km_Lw_91 kt_Lw_count k0_Lw kc_Lw_count kd_Lw_count ⟨(Nat.le_of_ble_eq_true rfl), (Nat.le_of_ble_eq_true rfl)⟩ hI.1.1 hI.2.1.1 hI.2.2.2.1 hI.1.2.2 hI.2.2.1.2.1 hI.2.2.2.2.2 hl.1 rfl (Nat.le_of_ble_eq_true rfl) d_Lw_law_684 ⟨hc, hs⟩ hS (hI.A1 hz) (fun _ h => h) (fun ad' o' H1 locs1 hnx ho hP1 hO1 hk1 hS1 => ?_)
  have hI1 := hI.hlp hz hnx hP1 hO1 hk1
  have e0 : ad' 0 = ad 0 := hnx.1 0 (by decide)
  refine lv_istore (lv' := [(5, .int (nI k)), (0, .ref b), (1, .ref (ad 0)), (2, .ref (am 0)), (3, .ref oa), (4, .int (nI (6 * j)))]) hx hb d_Lw_law_687 hl (by decide) rfl (fun ls hl => ?_)
  refine lv_aload_n hx hb d_Lw_law_689 rfl (lv_at hl 3 rfl) ?_
  refine sc_ld (i := 6 * j) (a := 1) hx hb hS0 hbl hbA hS1 hL31 g1 (by decide) (lv_at hl 1 rfl) (lv_at hl 5 rfl) d_Lw_law_690 d_Lw_law_691 d_Lw_law_693 d_Lw_law_694 d_Lw_law_695 ?_
  obtain ⟨fm, hm0⟩ := hR.m0 am
  refine call_I (As := [.int (xs (6 * j + 1))]) (rest := []) (b := am 0) F hK (hM am) km_Lw_93 ki_Mo_count ks_Mo_count k0_Mo kc_Mo_count kd_Mo_count ⟨(Nat.le_of_ble_eq_true rfl), (Nat.le_of_ble_eq_true rfl)⟩ (nw_recv hK.k hI1.1.2.1 (i := 0) (by decide) hm0 rfl) hI1.1.2.1 hI1.2.1.2 hl.1 rfl (Nat.le_of_ble_eq_true rfl) d_Lw_law_696 ⟨(by show cells + 2 + 0 ≤ _; exact hc), (by show slots + 2054 + 0 ≤ _; exact hs)⟩ hS1 (hI1.A2 hS1.1) (fun H2 locs2 hP2 hk2 hS2 => ?_)
  refine W.widen (k := cells + 2) (n := slots + 2054) (Nat.le_refl _) (Nat.le_refl _) ?_
  have hI2 := hI1.mdl (mt' := mt') hP2 hk2
  refine lv_istore (lv' := [(6, .int r), (5, .int (nI k)), (0, .ref b), (1, .ref (ad 0)), (2, .ref (am 0)), (3, .ref oa), (4, .int (nI (6 * j)))]) hx hb d_Lw_law_699 hl (by decide) rfl (fun ls hl => ?_)
  refine lv_aload_n hx hb d_Lw_law_701 rfl (lv_at hl 4 rfl) ?_
  obtain ⟨fm2, hm2⟩ := hR'.m0 am
  refine call_R (As := []) (rest := []) (b := am 0) F hK (hR'.thr l D am) km_Lw_59 ki_Mo_thrown ks_Mo_thrown k0_Mo kc_Mo_thrown kd_Mo_thrown ⟨(Nat.le_of_ble_eq_true rfl), (Nat.le_of_ble_eq_true rfl)⟩ (nw_recv hK.k hI2.1.2.1 (i := 0) (by decide) hm2 rfl) hI2.1.2.1 hI2.2.1.2 hl.1 rfl (Nat.le_of_ble_eq_true rfl) d_Lw_law_702 ⟨(by show cells + 2 + 0 ≤ _; exact hc), (by show slots + 2054 + 0 ≤ _; exact hs)⟩ hS2 (fun H3 locs3 hall hS3 => ?_)
  refine W.widen (k := cells + 2) (n := slots + 2054) (Nat.le_refl _) (Nat.le_refl _) ?_
  have hI3 := hI2.all hall
  refine lv_iload hx hb d_Lw_law_705 (lv_at hl 1 rfl) ?_
  refine lv_icmp_eq (tgt := 712) hx hb d_Lw_law_707 (by decide) (fun _ => ?_) (fun h => absurd rfl h)
  refine lv_iload hx hb d_Lw_law_712 (lv_at hl 1 rfl) ?_
  have hend : W p l e room_1 s m #[Value.ref b] below meth c H3 locs3 (cells + 2) (slots + 2054) Q (F0 m 729 ls []) := by
    refine lv_goto (tgt := 732) hx hb d_Lw_law_729 (by decide) ?_
    exact kk ct' mt' k ad' o' H3 locs3 ls hR' hI3 hS3 (by rw [e0]; exact lv_sub hl [2, 3, 4, 5, 6] rfl)
  refine lv_if_ne (tgt := 729) hx hb d_Lw_law_714 (by decide) (fun _ => hend) (fun h => ?_)
  have hk0 : k = 0 := (nI_z0 (by omega)).mp h
  refine lv_aload_n hx hb d_Lw_law_717 rfl (lv_at hl 5 rfl) ?_
  refine lv_iconst (v := nI 0) hx hb d_Lw_law_718 (by decide) ?_
  refine nwo_lald hx hb hK hI3.1.2.2 d_Lw_law_719 ?_
  refine lv_iload hx hb d_Lw_law_720 (lv_at hl 0 rfl) ?_
  refine lv_i2l hx hb d_Lw_law_722 rfl ?_
  refine W.lcmp hx hb d_Lw_law_723 ?_
  exact lv_if_eq (tgt := 729) hx hb d_Lw_law_724 (by decide) (fun _ => hend) (fun h => absurd ((lg_cmp_eq _ _).mpr ((ho hk0).trans (hko hk0))) h)
set_option maxRecDepth 100000 in
set_option maxHeartbeats 4000000 in
theorem lc_mount {p : Program} {l : Launch} {e : Env} {s : State} {m : MethodId} {below : List Frame} {meth : Method} {c : Code} {H : Heap} {locs : List Loc} {cells slots : Nat} {Q : State → Prop} {ls : Array Slot} {D : va_G} {cy : Nat → ClassId} {b L j k0 oa : Nat} {xs : Nat → Int32} {sa ad am : Nat → Nat} {x : Int64} {ct mt : (Nat → Nat) → Nat → va_E}
    (F : CallFix p m c code 8 s #[Value.ref b] TG R_Lw) (hK : KN D cy s) (hX : KX sa s.heap.size s) (hNC : NC s) (hl0 : l.stackTraces = false) (hS0 : va_X b L xs s s.heap) (hbl : b < s.heap.size) (hL31 : L < 2 ^ 31) (hj : 6 * j + 6 ≤ L) (hn : j < 512)
    (hR : REL cy j ct mt k0) (hI : LWI D cy s.heap.size ct mt ad am oa x H) (hS : va_S (fun q => s.heap.size ≤ q) s.heap H locs) (hl : lv_has ls 8 [(0, .ref b), (1, .ref (ad 0)), (2, .ref (am 0)), (3, .ref oa), (4, .int (nI (6 * j)))]) (hc : cells + 2 ≤ room_1.cells) (hs : slots + 2054 ≤ room_1.slots)
    (kk : ∀ (ct' mt' : (Nat → Nat) → Nat → va_E) (k' : Nat) (ad' : Nat → Nat) (x' : Int64) (H1 : Heap) (locs1 : List Loc) (ls1 : Array Slot), REL cy (j + 1) ct' mt' k' → LWI D cy s.heap.size ct' mt' ad' am oa x' H1 → va_S (fun q => s.heap.size ≤ q) s.heap H1 locs1 → lv_has ls1 8 [(0, .ref b), (1, .ref (ad' 0)), (2, .ref (am 0)), (3, .ref oa), (4, .int (nI (6 * j)))] → W p l e room_1 s m #[Value.ref b] below meth c H1 locs1 (cells + 2) (slots + 2054) Q (F0 m 732 ls1 [])) :
    W p l e room_1 s m #[Value.ref b] below meth c H locs cells slots Q (F0 m 528 ls []) := by
  obtain ⟨hx, hb, hml, hown, hts⟩ := id F
  have hz := hS.1
  have hbA : ¬ (fun q : Nat => s.heap.size ≤ q) b := Nat.not_le.mpr hbl
  obtain ⟨r, ct', mt', hR', hXX, hM⟩ := st_mount (l := l) (D := D) hn hR
  obtain ⟨fc, hc0⟩ := hR.c0 ad
  obtain ⟨fm, hm0⟩ := hR.m0 am
  refine lv_aload_n hx hb d_Lw_law_528 rfl (lv_at hl 1 rfl) ?_
  refine call_X (As := []) (rest := []) (b := ad 0) F hK (hXX ad) km_Lw_81 ki_Tl_mount ks_Tl_mount k0_Tl kc_Tl_mount kd_Tl_mount ⟨(Nat.le_of_ble_eq_true rfl), (Nat.le_of_ble_eq_true rfl)⟩ (nw_recv hK.k hI.1.1 (i := 0) (by decide) hc0 rfl) hI.1.1 hI.2.1.1 hl.1 rfl (Nat.le_of_ble_eq_true rfl) d_Lw_law_529 ⟨hc, hs⟩ hS (hI.A3 hz) (fun ad' H1 locs1 hnx hP1 hk1 hS1 => ?_)
  refine W.widen (k := cells + 2) (n := slots + 2054) (Nat.le_refl _) (Nat.le_refl _) ?_
  have hI1 := hI.mnt hz hnx hP1 hk1
  have e0 : ad' 0 = ad 0 := hnx.1 0 (by decide)
  refine lv_aload_n hx hb d_Lw_law_532 rfl (lv_at hl 2 rfl) ?_
  refine call_I (As := []) (rest := [.int r]) (b := am 0) F hK (hM am) km_Lw_84 ki_Mo_mount ks_Mo_mount k0_Mo kc_Mo_mount kd_Mo_mount ⟨(Nat.le_of_ble_eq_true rfl), (Nat.le_of_ble_eq_true rfl)⟩ (nw_recv hK.k hI1.1.2.1 (i := 0) (by decide) hm0 rfl) hI1.1.2.1 hI1.2.1.2 hl.1 rfl (Nat.le_of_ble_eq_true rfl) d_Lw_law_533 ⟨(by show cells + 2 + 0 ≤ _; exact hc), (by show slots + 2054 + 0 ≤ _; exact hs)⟩ hS1 (hI1.A2 hS1.1) (fun H2 locs2 hP2 hk2 hS2 => ?_)
  refine W.widen (k := cells + 2) (n := slots + 2054) (Nat.le_refl _) (Nat.le_refl _) ?_
  have hI2 := hI1.mdl (mt' := mt') hP2 hk2
  exact lv_icmp_eq (tgt := 732) hx hb d_Lw_law_536 (by decide) (fun _ => kk ct' mt' 0 ad' x H2 locs2 ls hR' hI2 hS2 (by rw [e0]; exact hl)) (fun h => absurd rfl h)

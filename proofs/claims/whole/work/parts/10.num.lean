/-! numbers: names for values on the stack, bytes, truth values -/
section NUMW
variable {p : Program} {l : Launch} {e : Env} {R : Room} {s : State} {m : MethodId} {args : Array Value} {below : List Frame} {meth : Method} {c : Code} {H : Heap} {locs : List Loc} {cells slots : Nat} {Q : State → Prop} {pc : Nat} {ls : Array Slot} {rest : List Value}
theorem lv_eqi {x y : Int32} (h : x = y) (k : W p l e R s m args below meth c H locs cells slots Q (F0 m pc ls (.int y :: rest))) : W p l e R s m args below meth c H locs cells slots Q (F0 m pc ls (.int x :: rest)) := by rw [h]; exact k
theorem lv_eql {x y : Int64} (h : x = y) (k : W p l e R s m args below meth c H locs cells slots Q (F0 m pc ls (.long y :: rest))) : W p l e R s m args below meth c H locs cells slots Q (F0 m pc ls (.long x :: rest)) := by rw [h]; exact k
end NUMW
theorem nI_inc (a : Nat) : nI a + Int32.ofInt 1 = nI (a + 1) := nI_1 a
theorem nI_dec {a : Nat} (h : 0 < a) : nI a + Int32.ofInt (-1) = nI (a - 1) := by
  rw [← sb_m1 h]; rfl
/-- a truth value as the machine has it -/
def bI (b : Bool) : Int32 := if b = true then 1 else 0
theorem bI_t : bI true = 1 := rfl
theorem bI_f : bI false = 0 := rfl
theorem bI_eq0 {b : Bool} : bI b = 0 ↔ b = false := by cases b <;> decide
theorem bI_ne0 {b : Bool} : ¬ bI b = 0 ↔ b = true := by cases b <;> decide
theorem bI_nar (b : Bool) : narrow .boolean (.int (bI b)) = .int (bI b) := by cases b <;> decide
theorem bI_fit (b : Bool) : fits .boolean (.int (bI b)) = true := by cases b <;> decide
theorem nI_z0 {a : Nat} (h : a < 2 ^ 31) : nI a = 0 ↔ a = 0 := by
  rw [← nI_0]; exact nI_eq h (by omega)
theorem nI_zl {a : Nat} (h : a < 2 ^ 31) : nI a ≤ 0 ↔ a = 0 := by
  rw [← nI_0, nI_leI h (by omega)]; omega
theorem nI_zg {a : Nat} (h : a < 2 ^ 31) : 0 < nI a ↔ 0 < a := by
  rw [← nI_0, nI_ltI (by omega) h]
/-- the byte of an int -/
def bof (x : Int32) : Nat := x.toBitVec.toNat % 256
theorem bof_lt (x : Int32) : bof x < 256 := Nat.mod_lt _ (by omega)
theorem sb_of (x : Int32) : x.toInt8.toInt32 = sb_b (bof x) := by
  unfold sb_b bof
  congr 1
  apply Int8.toBitVec_inj.mp
  apply BitVec.eq_of_toNat_eq
  simp [nI]
  rw [BitVec.signExtend_eq_setWidth_of_le _ (by omega)]
  simp
theorem sb_na (x : Int32) : vp_nar .byte x.toInt8.toInt32 = sb_b (bof x) := by rw [pk_vb, sb_of]
theorem sb_nb (c : Nat) : vp_nar .byte (sb_b c) = sb_b c := pk_vb _
theorem sb_and {c : Nat} (h : c < 256) : sb_b c &&& 255 = nI c := (sb_byte c h).1
theorem bof_nI {n : Nat} (h : n < 2 ^ 31) : bof (nI n) = n % 256 := by
  unfold bof
  rw [pk_tn (by omega)]
theorem by_upd (g : Nat → Nat) (k v : Nat) : upd (fun j => sb_b (g j)) k (sb_b v) = fun j => sb_b (va_up g k v j) := by
  funext j
  by_cases h : j = k <;> simp [upd, va_up, h]
theorem in_upd (g : Nat → Nat) (k v : Nat) : upd (fun j => nI (g j)) k (nI v) = fun j => nI (va_up g k v j) := by
  funext j
  by_cases h : j = k <;> simp [upd, va_up, h]
/-- byte i of an int, from the lowest -/
def nb (v : Int32) (i : Nat) : Nat := v.toBitVec.toNat / 256 ^ i % 256
theorem nb_lt (v : Int32) (i : Nat) : nb v i < 256 := Nat.mod_lt _ (by omega)
theorem toInt_cases (x : Int32) : x.toBitVec.toNat < 2 ^ 32 ∧ ((x.toInt = (x.toBitVec.toNat : Int) ∧ x.toBitVec.toNat < 2 ^ 31) ∨ (x.toInt = (x.toBitVec.toNat : Int) - 2 ^ 32 ∧ 2 ^ 31 ≤ x.toBitVec.toNat)) := by
  have h1 : x.toBitVec.toNat < 2 ^ 32 := x.toBitVec.isLt
  have h2 : x.toInt = x.toBitVec.toInt := rfl
  rw [BitVec.toInt_eq_toNat_cond] at h2
  refine ⟨h1, ?_⟩
  split at h2 <;> omega
theorem bof_0 (v : Int32) : bof v = nb v 0 := by simp [bof, nb]
theorem bof_8 (v : Int32) : bof (v >>> (nI 8 &&& 31)) = nb v 1 := by
  have h1 : (v >>> (nI 8 &&& 31)).toInt = v.toInt / 256 := by
    rw [pk_shr v _ 8 (by decide), Int.shiftRight_eq_div_pow]; rfl
  obtain ⟨a1, a2⟩ := toInt_cases v
  obtain ⟨b1, b2⟩ := toInt_cases (v >>> (nI 8 &&& 31))
  unfold bof nb
  show _ = v.toBitVec.toNat / 256 % 256
  rw [h1] at b2
  generalize (v >>> (nI 8 &&& 31)).toBitVec.toNat = y at *
  omega
theorem bof_16 (v : Int32) : bof (v >>> (nI 16 &&& 31)) = nb v 2 := by
  have h1 : (v >>> (nI 16 &&& 31)).toInt = v.toInt / 65536 := by
    rw [pk_shr v _ 16 (by decide), Int.shiftRight_eq_div_pow]; rfl
  obtain ⟨a1, a2⟩ := toInt_cases v
  obtain ⟨b1, b2⟩ := toInt_cases (v >>> (nI 16 &&& 31))
  unfold bof nb
  show _ = v.toBitVec.toNat / 65536 % 256
  rw [h1] at b2
  generalize (v >>> (nI 16 &&& 31)).toBitVec.toNat = y at *
  omega
theorem bof_24 (v : Int32) : bof (v >>> (nI 24 &&& 31)) = nb v 3 := by
  have h1 : (v >>> (nI 24 &&& 31)).toInt = v.toInt / 16777216 := by
    rw [pk_shr v _ 24 (by decide), Int.shiftRight_eq_div_pow]; rfl
  obtain ⟨a1, a2⟩ := toInt_cases v
  obtain ⟨b1, b2⟩ := toInt_cases (v >>> (nI 24 &&& 31))
  unfold bof nb
  show _ = v.toBitVec.toNat / 16777216 % 256
  rw [h1] at b2
  generalize (v >>> (nI 24 &&& 31)).toBitVec.toNat = y at *
  omega
theorem na_le {P : Nat → Prop} {ad : Nat → Nat} {H0 H : Heap} {locs : List Loc} (hS : va_S (na P ad H0.size) H0 H locs) : ∀ q, na P ad H.size q → na P ad H0.size q := fun q h => h.elim Or.inl (fun h => Or.inr (Nat.le_trans hS.1 h))

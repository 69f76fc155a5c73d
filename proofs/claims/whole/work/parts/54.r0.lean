/-! the reference's small methods -/
theorem k373 : am_kd 373 = 10 := rfl
theorem k374 : am_kd 374 = 20 := rfl
theorem g373_1 : am_tg 373 1 = 374 := rfl
theorem n374 : am_ln 374 = 2113 := rfl
theorem kk10 : am_kk 10 10 = true := rfl
theorem am_kI_i (v : Int32) (h : am_H) (f : Int32 → am_H → Option am_R) : am_kI (some (.inl (some v), h)) f = f v h := rfl
theorem am_nI_i (v : Int32) (h : am_H) (f : Int32 → am_H → Option am_R) : am_nI (some (.inl (some v), h)) f = f v h := rfl
theorem am_kV_i (h : am_H) (f : am_H → Option am_R) : am_kV (some (.inl none, h)) f = f h := rfl
theorem am_nV_i (h : am_H) (f : am_H → Option am_R) : am_nV (some (.inl none, h)) f = f h := rfl
theorem b01 : ((0 : Int32) = 0 ∨ (0 : Int32) = 1) = True := by simp
theorem b11 : ((1 : Int32) = 0 ∨ (1 : Int32) = 1) = True := by simp
theorem sR_in (d : Nat) (x a b : Int32) (h : am_H) : am_cl (d + 1) qR_in [.int x, .int a, .int b] h = some (.inl (some (if x < a ∨ b < x then 0 else 1)), h) := by
  rw [uR_in, tR_in_0]
  by_cases h1 : x < a
  · rw [if_pos h1, tR_in_3, tR_in_4, if_pos (Or.inl rfl), if_pos (Or.inl h1)]
  · rw [if_neg h1, tR_in_1]
    by_cases h2 : b < x
    · rw [if_pos h2, tR_in_3, tR_in_4, if_pos (Or.inl rfl), if_pos (Or.inr h2)]
    · rw [if_neg h2, tR_in_2, tR_in_4, if_pos (Or.inr rfl), if_neg (fun q => q.elim h1 h2)]
theorem sR_has (d : Nat) (x k : Int32) (h : am_H) : am_cl (d + 1) qR_has [.int x, .int k] h = some (.inl (some (if ((x >>> (k &&& 31)) &&& 1) = 1 then 1 else 0)), h) := by
  rw [uR_has, tR_has_0]
  by_cases h1 : ((x >>> (k &&& 31)) &&& 1) = (1 : Int32)
  · rw [if_pos h1, tR_has_1, tR_has_3, if_pos (Or.inr rfl), if_pos h1]
  · rw [if_neg h1, tR_has_2, tR_has_3, if_pos (Or.inl rfl), if_neg h1]
theorem sR_thingAt (d : Nat) (t w : Nat) (h : am_H) : am_cl (d + 1) qR_thingAt [.int (Int32.ofNat t), .int (Int32.ofNat w)] h = some (.inl (some (Int32.ofNat (7 + 4 * t + w))), h) := by
  rw [uR_thingAt, tR_thingAt_0, show (7 : Int32) = Int32.ofNat 7 from rfl, show (4 : Int32) = Int32.ofNat 4 from rfl, pn_mul, pn_add, pn_add]
theorem sR_ofThing (d : Nat) {t w : Nat} (ht : t < 9) (hw : w < 4) (h : am_H) : am_cl (d + 2) qR_ofThing [.ref 373, .int (Int32.ofNat t), .int (Int32.ofNat w)] h = some (.inl (some (h.2 374 (7 + 4 * t + w))), h) := by
  rw [uR_ofThing, tR_ofThing_0, sR_thingAt]
  rw [if_pos (by rfl)]
  show (if am_in (Int32.ofNat (7 + 4 * t + w)) 2113 = true then (some (.inl (some (h.2 374 (Int32.ofNat (7 + 4 * t + w)).toNatClampNeg)), h) : Option am_R) else none) = _
  rw [if_pos (pn_in (by omega) (by omega)), pn_tn (by omega)]
theorem sR_isOpened (d : Nat) {c : Nat} (hc : c < 8) (h : am_H) : am_cl (d + 3) qR_isOpened [.ref 373, .int (Int32.ofNat c)] h = some (.inl (some (if h.2 374 (43 + 9 * c + 7) = 1 then 1 else 0)), h) := by
  rw [uR_isOpened, tR_isOpened_0, show (7 : Int32) = Int32.ofNat 7 from rfl, sR_of d hc (by omega)]
  simp only [k373, if_true, am_kI_i]
  by_cases h1 : h.2 374 (43 + 9 * c + 7) = 1
  · rw [if_pos h1, tR_isOpened_1, tR_isOpened_3, if_pos (Or.inr rfl), if_pos h1]
  · rw [if_neg h1, tR_isOpened_2, tR_isOpened_3, if_pos (Or.inl rfl), if_neg h1]
theorem sR_hasKnot (d : Nat) {c : Nat} (hc : c < 8) (h : am_H) : am_cl (d + 3) qR_hasKnot [.ref 373, .int (Int32.ofNat c)] h = some (.inl (some (if h.2 374 (43 + 9 * c + 8) = -1 then 0 else 1)), h) := by
  rw [uR_hasKnot, tR_hasKnot_0, show (8 : Int32) = Int32.ofNat 8 from rfl, sR_of d hc (by omega)]
  simp only [k373, if_true, am_kI_i]
  by_cases h1 : h.2 374 (43 + 9 * c + 8) = -1
  · rw [if_pos h1, tR_hasKnot_2, tR_hasKnot_3, if_pos (Or.inl rfl), if_pos h1]
  · rw [if_neg h1, tR_hasKnot_1, tR_hasKnot_3, if_pos (Or.inr rfl), if_neg h1]
theorem sR_keeps (d : Nat) {c : Nat} (hc : c < 8) (h : am_H) : am_cl (d + 3) qR_keeps [.ref 373, .int (Int32.ofNat c)] h = some (.inl (some (if h.2 374 (43 + 9 * c + 5) = -1 then 0 else 1)), h) := by
  rw [uR_keeps, tR_keeps_0, show (5 : Int32) = Int32.ofNat 5 from rfl, sR_of d hc (by omega)]
  simp only [k373, if_true, am_kI_i]
  by_cases h1 : h.2 374 (43 + 9 * c + 5) = -1
  · rw [if_pos h1, tR_keeps_2, tR_keeps_3, if_pos (Or.inl rfl), if_pos h1]
  · rw [if_neg h1, tR_keeps_1, tR_keeps_3, if_pos (Or.inr rfl), if_neg h1]
theorem sR_noThing (d : Nat) (x : Int32) (h : am_H) : am_cl (d + 2) qR_noThing [.int x] h = some (.inl (some (if x < 0 ∨ 7 < x then 1 else 0)), h) := by
  rw [uR_noThing, tR_noThing_0, sR_in]
  simp only [am_kI_i]
  by_cases h1 : x < 0 ∨ 7 < x
  · rw [if_pos h1, if_pos rfl, tR_noThing_1, tR_noThing_3, if_pos (Or.inr rfl), if_pos h1]
  · rw [if_neg h1, if_neg (by decide), tR_noThing_2, tR_noThing_3, if_pos (Or.inl rfl), if_neg h1]
theorem sR_noChild (d : Nat) (x : Int32) (h : am_H) : am_cl (d + 2) qR_noChild [.ref 373, .int x] h = some (.inl (some (if x < 0 ∨ h.2 374 0 - 1 < x then 1 else 0)), h) := by
  rw [uR_noChild, tR_noChild_0, sR_children]
  simp only [k373, if_true, am_kI_i]
  rw [sR_in]
  simp only [am_kI_i]
  by_cases h1 : x < 0 ∨ h.2 374 0 - 1 < x
  · rw [if_pos h1, if_pos rfl, tR_noChild_1, tR_noChild_3, if_pos (Or.inr rfl), if_pos h1]
  · rw [if_neg h1, if_neg (by decide), tR_noChild_2, tR_noChild_3, if_pos (Or.inl rfl), if_neg h1]
theorem sR_throwsIf (d : Nat) {p : Prop} [Decidable p] (k : Int32) (h : am_H) : am_cl (d + 1) qR_throwsIf [.ref 373, .int (if p then 1 else 0), .int k] h = some (.inl (some (if p then 1 else 0)), if p then am_up h 373 0 k else h) := by
  rw [uR_throwsIf, tR_throwsIf_0]
  by_cases hp : p
  · simp only [if_pos hp]
    rw [if_neg (by decide), tR_throwsIf_1, if_pos (by rfl), tR_throwsIf_2, if_pos (Or.inr rfl)]
  · simp only [if_neg hp]
    rw [if_pos trivial, tR_throwsIf_2, if_pos (Or.inl rfl)]
theorem sR_weightOf (d : Nat) {t : Nat} (ht : t < 9) (h : am_H) : am_cl (d + 3) qR_weightOf [.ref 373, .int (Int32.ofNat t)] h = some (.inl (some (if t = 8 then h.2 374 4 else h.2 374 (7 + 4 * t))), h) := by
  rw [uR_weightOf, tR_weightOf_0, show (8 : Int32) = Int32.ofNat 8 from rfl]
  by_cases h1 : t = 8
  · rw [if_pos ((pn_eq (by omega) (by omega)).mpr h1), tR_weightOf_1, if_pos (by rfl), if_pos (by rfl), if_pos (by rfl), tR_weightOf_3, if_pos h1]
    rfl
  · rw [if_neg (fun q => h1 ((pn_eq (by omega) (by omega)).mp q)), tR_weightOf_2, if_pos (by rfl), show (0 : Int32) = Int32.ofNat 0 from rfl, sR_ofThing d ht (by omega), am_kI_i, tR_weightOf_3, if_neg h1]
    rfl

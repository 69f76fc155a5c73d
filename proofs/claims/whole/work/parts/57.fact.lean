/-! the reference's facts of a child -/
def pf_bc (x : Int32) : Int32 :=
  let a := x - (am_ush x (1 : Int32) &&& (1431655765 : Int32))
  let b := (a &&& (858993459 : Int32)) + (am_ush a (2 : Int32) &&& (858993459 : Int32))
  let c := (b + am_ush b (4 : Int32)) &&& (252645135 : Int32)
  let e := c + am_ush c (8 : Int32)
  let f := e + am_ush e (16 : Int32)
  f &&& (63 : Int32)
theorem sJ_bitCount (d : Nat) (x : Int32) (h : am_H) : am_cl (d + 1) qJ_bitCount_0f7a4 [.int x] h = some (.inl (some (pf_bc x)), h) := by
  rw [uJ_bitCount_0f7a4, tJ_bitCount_0f7a4_0]
  rfl
def pf_fact (W : Nat → Int32) (k : Nat) (n : Int32) (c i : Nat) : Int32 := match k with
  | 0 => Int32.ofNat c
  | 1 => W (43 + 9 * c + 0)
  | 2 => W (43 + 9 * c + 3)
  | 3 => W (7 + 4 * i + 1)
  | 4 => W (7 + 4 * i + 2)
  | 5 => W (7 + 4 * i + 3)
  | 6 => pf_bc (W (43 + 9 * c + 2))
  | 7 => W 3
  | 8 => if W (43 + 9 * c + 8) = -1 then 0 else 1
  | 9 => if W (43 + 9 * c + 4) = Int32.ofNat i then 1 else 0
  | 10 => if i = 8 then 1 else 0
  | _ => n
theorem sR_factOf (d : Nat) {k c i : Nat} (n : Int32) (hk : k < 12) (hc : c < 8) (hi : i < 9) (h : am_H) (e : h.2 374 (43 + 9 * c + 1) = Int32.ofNat i) : am_cl (d + 4) qR_factOf [.ref 373, .int (Int32.ofNat k), .int n, .int (Int32.ofNat c)] h = some (.inl (some (pf_fact (h.2 374) k n c i)), h) := by
  rw [uR_factOf, tR_factOf_0, if_pos (by rfl), show (1 : Int32) = Int32.ofNat 1 from rfl, sR_of (d + 1) hc (by omega), am_kI_i, e]
  have kd : am_kd 373 = 10 := rfl
  rcases (show k = 0 ∨ k = 1 ∨ k = 2 ∨ k = 3 ∨ k = 4 ∨ k = 5 ∨ k = 6 ∨ k = 7 ∨ k = 8 ∨ k = 9 ∨ k = 10 ∨ k = 11 by omega) with rfl | rfl | rfl | rfl | rfl | rfl | rfl | rfl | rfl | rfl | rfl | rfl
  · exact tR_factOf_1 _ _ _ _ _ _ _
  · refine (tR_factOf_2 _ _ _ _ _ _ _).trans ?_
    rw [if_pos kd, show (0 : Int32) = Int32.ofNat 0 from rfl, sR_of (d + 1) hc (by omega), am_kI_i]
    rfl
  · refine (tR_factOf_3 _ _ _ _ _ _ _).trans ?_
    rw [if_pos kd, show (3 : Int32) = Int32.ofNat 3 from rfl, sR_of (d + 1) hc (by omega), am_kI_i]
    rfl
  · refine (tR_factOf_4 _ _ _ _ _ _ _).trans ?_
    rw [if_pos kd, show (1 : Int32) = Int32.ofNat 1 from rfl, sR_ofThing (d + 1) hi (by omega), am_kI_i]
    rfl
  · refine (tR_factOf_5 _ _ _ _ _ _ _).trans ?_
    rw [if_pos kd, show (2 : Int32) = Int32.ofNat 2 from rfl, sR_ofThing (d + 1) hi (by omega), am_kI_i]
    rfl
  · refine (tR_factOf_6 _ _ _ _ _ _ _).trans ?_
    rw [if_pos kd, show (3 : Int32) = Int32.ofNat 3 from rfl, sR_ofThing (d + 1) hi (by omega), am_kI_i]
    rfl
  · refine (tR_factOf_7 _ _ _ _ _ _ _).trans ?_
    rw [if_pos kd, show (2 : Int32) = Int32.ofNat 2 from rfl, sR_of (d + 1) hc (by omega), am_kI_i, sJ_bitCount, am_kI_i]
    rfl
  · refine (tR_factOf_8 _ _ _ _ _ _ _).trans ?_
    rw [if_pos (by rfl), if_pos (by rfl), if_pos (by rfl)]
    rfl
  · refine (tR_factOf_9 _ _ _ _ _ _ _).trans ?_
    rw [if_pos kd, sR_hasKnot d hc, am_kI_i]
    show _ = (some (.inl (some (if h.2 374 (43 + 9 * c + 8) = -1 then 0 else 1)), h) : Option am_R)
    by_cases h1 : h.2 374 (43 + 9 * c + 8) = -1
    · rw [if_pos h1, if_pos rfl, tR_factOf_11, tR_factOf_12]
    · rw [if_neg h1, if_neg (by decide), tR_factOf_10, tR_factOf_12]
  · refine (tR_factOf_13 _ _ _ _ _ _ _).trans ?_
    rw [if_pos kd, show (4 : Int32) = Int32.ofNat 4 from rfl, sR_of (d + 1) hc (by omega), am_kI_i]
    show _ = (some (.inl (some (if h.2 374 (43 + 9 * c + 4) = Int32.ofNat i then 1 else 0)), h) : Option am_R)
    by_cases h1 : h.2 374 (43 + 9 * c + 4) = Int32.ofNat i
    · rw [if_pos h1, if_pos h1, tR_factOf_14, tR_factOf_16]
    · rw [if_neg h1, if_neg h1, tR_factOf_15, tR_factOf_16]
  · refine (tR_factOf_17 _ _ _ _ _ _ _).trans ?_
    show _ = (some (.inl (some (if i = 8 then 1 else 0)), h) : Option am_R)
    by_cases h1 : i = 8
    · rw [if_pos h1, if_pos (by rw [h1]; rfl), tR_factOf_18, tR_factOf_20]
    · rw [if_neg h1, if_neg (fun q => h1 ((pn_eq (by omega) (by omega)).mp (q.trans (show (8 : Int32) = Int32.ofNat 8 from rfl)))), tR_factOf_19, tR_factOf_20]
  · exact tR_factOf_21 _ _ _ _ _ _ _

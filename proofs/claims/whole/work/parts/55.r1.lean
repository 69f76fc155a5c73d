/-! sums over the children; the draw -/
def pf_sum (f : Nat → Int32) : Nat → Nat → Int32 → Int32
  | 0, _, s => s
  | k + 1, c, s => pf_sum f k (c + 1) (s + f c)
/-- the fates of all -/
def pf_fates (W : Nat → Int32) (N : Nat) : Int32 := pf_sum (fun c => W (43 + 9 * c + 6)) N 0 0
theorem sR_fateOfAll_l (d : Nat) (h : am_H) {N : Nat} (hN : N ≤ 8) (e : h.2 374 0 = Int32.ofNat N) : ∀ (k c : Nat) (s : Int32), c + k = N → am_go (am_cl (d + 2)) qR_fateOfAll 1 [.ref 373, .int s, .int (Int32.ofNat c)] [] h = some (.inl (some (pf_sum (fun c => h.2 374 (43 + 9 * c + 6)) k c s)), h) := by
  intro k
  induction k with
  | zero =>
    intro c s hc
    rw [tR_fateOfAll_1, sR_children, if_pos (by rfl)]
    show (if h.2 374 0 ≤ Int32.ofNat c then _ else _) = _
    rw [e, if_pos ((pn_le (by omega) (by omega)).mpr (by omega)), tR_fateOfAll_3]
    rfl
  | succ k ih =>
    intro c s hc
    rw [tR_fateOfAll_1, sR_children, if_pos (by rfl)]
    show (if h.2 374 0 ≤ Int32.ofNat c then _ else _) = _
    rw [e, if_neg (fun q => by have := (pn_le (by omega) (by omega)).mp q; omega), tR_fateOfAll_2, if_pos (by rfl), show (6 : Int32) = Int32.ofNat 6 from rfl, sR_of d (by omega) (by omega), am_kI_i, show (1 : Int32) = Int32.ofNat 1 from rfl, pn_add, ih (c + 1) _ (by omega)]
    rfl
theorem sR_fateOfAll (d : Nat) (h : am_H) {N : Nat} (hN : N ≤ 8) (e : h.2 374 0 = Int32.ofNat N) : am_cl (d + 3) qR_fateOfAll [.ref 373] h = some (.inl (some (pf_fates (h.2 374) N)), h) := by
  rw [uR_fateOfAll, tR_fateOfAll_0]
  exact sR_fateOfAll_l d h hN e N 0 0 (by omega)
def pf_share (W : Nat → Int32) (N c : Nat) : Int32 := if pf_fates W N = 0 then 0 else 100 * W (43 + 9 * c + 6) / pf_fates W N
theorem sR_shareOf (d : Nat) (h : am_H) {N c : Nat} (hN : N ≤ 8) (hc : c < 8) (e : h.2 374 0 = Int32.ofNat N) : am_cl (d + 4) qR_shareOf [.ref 373, .int (Int32.ofNat c)] h = some (.inl (some (pf_share (h.2 374) N c)), h) := by
  rw [uR_shareOf, tR_shareOf_0, if_pos (by rfl), sR_fateOfAll d h hN e, am_kI_i]
  unfold pf_share
  by_cases h0 : pf_fates (h.2 374) N = 0
  · rw [if_pos h0, if_pos h0, tR_shareOf_1, tR_shareOf_3]
  · rw [if_neg h0, if_neg h0, tR_shareOf_2, if_pos (by rfl), show (6 : Int32) = Int32.ofNat 6 from rfl, sR_of (d + 1) hc (by omega), am_kI_i, if_neg h0, tR_shareOf_3]
theorem sR_howMany (d : Nat) {w : Nat} (hw : w < 9) (n : Int32) (h : am_H) {N : Nat} (hN : N ≤ 8) (e : h.2 374 0 = Int32.ofNat N) : am_cl (d + 3) qR_howMany [.ref 373, .int (Int32.ofNat w), .int n] h = some (.inl (some (Int32.ofNat ((List.range' 0 N).countP (fun c => decide (h.2 374 (43 + 9 * c + w) = n))))), h) := by
  rw [uR_howMany, tR_howMany_0, show (0 : Int32) = Int32.ofNat 0 from rfl, sR_howMany_l d hw n h hN e N 0 0 (by omega), Nat.zero_add]
/-- the draw -/
def pf_seed (W : Nat → Int32) : Int32 := 1103515245 * W 6 + 12345
def pf_draw (s n : Int32) : Int32 := ((s >>> ((16 : Int32) &&& 31)) &&& (32767 : Int32)) - ((s >>> ((16 : Int32) &&& 31)) &&& (32767 : Int32)) / n * n
theorem sR_drawn (d : Nat) {n : Int32} (hn : n ≠ 0) (h : am_H) : am_cl (d + 1) qR_drawn [.ref 373, .int n] h = some (.inl (some (pf_draw (pf_seed (h.2 374)) n)), am_up h 374 6 (pf_seed (h.2 374))) := by
  rw [uR_drawn, tR_drawn_0]
  rw [if_pos (by rfl), if_pos (by rfl), if_pos (by rfl), if_pos (by rfl), if_pos (by rfl), if_pos (by rfl), if_pos (by rfl), if_pos (by rfl), if_pos (by rfl), if_neg hn]
  have e6 : ((6 : Int32)).toNatClampNeg = 6 := rfl
  have e1 : am_tg 373 1 = 374 := rfl
  rw [e6, e1, am_up_self]
  rfl

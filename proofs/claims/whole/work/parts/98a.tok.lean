/-! texts: tokens -/
def isLt (b : Nat) : Bool := decide (97 ≤ b ∧ b ≤ 122)
def isDg (b : Nat) : Bool := decide (48 ≤ b ∧ b ≤ 57)
def isBl (b : Nat) : Bool := decide (b = 32)
def runE (q : Nat → Bool) (B : Nat → Nat) (E : Nat) : Nat → Nat → Nat
  | 0, p => p
  | k + 1, p => if p < E ∧ q (B p) = true then runE q B E k (p + 1) else p
def rn (q : Nat → Bool) (B : Nat → Nat) (E p : Nat) : Nat := runE q B E (E - p) p
theorem rn_go {q : Nat → Bool} {B : Nat → Nat} {E p : Nat} (h : p < E) (hq : q (B p) = true) : rn q B E p = rn q B E (p + 1) := by
  unfold rn
  rw [show E - p = (E - (p + 1)) + 1 by omega]
  show (if p < E ∧ q (B p) = true then _ else _) = _
  rw [if_pos ⟨h, hq⟩]
theorem rn_no {q : Nat → Bool} {B : Nat → Nat} {E p : Nat} (h : ¬ (p < E ∧ q (B p) = true)) : rn q B E p = p := by
  unfold rn
  cases E - p with
  | zero => rfl
  | succ k =>
    show (if p < E ∧ q (B p) = true then _ else _) = _
    rw [if_neg h]
theorem rn_facts {q : Nat → Bool} {B : Nat → Nat} {E : Nat} : ∀ (k p : Nat), p + k = E → p ≤ rn q B E p ∧ rn q B E p ≤ E ∧ (∀ j, p ≤ j → j < rn q B E p → q (B j) = true) ∧ (rn q B E p < E → ¬ q (B (rn q B E p)) = true) := by
  intro k
  induction k with
  | zero =>
    intro p hp
    rw [rn_no (by omega)]
    exact ⟨Nat.le_refl _, by omega, fun j h1 h2 => by omega, fun h => by omega⟩
  | succ k ih =>
    intro p hp
    by_cases h : q (B p) = true
    · rw [rn_go (by omega) h]
      obtain ⟨a, b, c, e⟩ := ih (p + 1) (by omega)
      refine ⟨by omega, b, fun j h1 h2 => ?_, e⟩
      by_cases z : j = p
      · rw [z]; exact h
      · exact c j (by omega) h2
    · rw [rn_no (fun z => h z.2)]
      exact ⟨Nat.le_refl _, by omega, fun j h1 h2 => by omega, fun _ => h⟩
theorem rn_at {q : Nat → Bool} {B : Nat → Nat} {E p : Nat} (hp : p ≤ E) : p ≤ rn q B E p ∧ rn q B E p ≤ E ∧ (∀ j, p ≤ j → j < rn q B E p → q (B j) = true) ∧ (rn q B E p < E → ¬ q (B (rn q B E p)) = true) := rn_facts (E - p) p (by omega)
def nb (B : Nat → Nat) (E p : Nat) : Nat := rn isBl B E p
def te (B : Nat → Nat) (E p : Nat) : Nat := if isLt (B p) = true then rn isLt B E p else if isDg (B p) = true then rn isDg B E p else p + 1
theorem te_at {B : Nat → Nat} {E p : Nat} (hp : p < E) : p < te B E p ∧ te B E p ≤ E := by
  unfold te
  by_cases h1 : isLt (B p) = true
  · rw [if_pos h1, rn_go hp h1]
    obtain ⟨a, b, -⟩ := rn_at (q := isLt) (B := B) (E := E) (p := p + 1) (by omega)
    omega
  · rw [if_neg h1]
    by_cases h2 : isDg (B p) = true
    · rw [if_pos h2, rn_go hp h2]
      obtain ⟨a, b, -⟩ := rn_at (q := isDg) (B := B) (E := E) (p := p + 1) (by omega)
      omega
    · rw [if_neg h2]; omega
def stt (B : Nat → Nat) (E : Nat) : Nat → Nat
  | 0 => nb B E 0
  | i + 1 => if stt B E i < E then nb B E (te B E (stt B E i)) else stt B E i
theorem stt_S {B : Nat → Nat} {E i : Nat} (h : stt B E i < E) : stt B E (i + 1) = nb B E (te B E (stt B E i)) := if_pos h
theorem nb_le {B : Nat → Nat} {E p : Nat} (hp : p ≤ E) : nb B E p ≤ E := (rn_at hp).2.1
theorem nb_nb {B : Nat → Nat} {E p : Nat} (hp : p ≤ E) : nb B E (nb B E p) = nb B E p := rn_no (fun z => (rn_at (q := isBl) (B := B) hp).2.2.2 z.1 z.2)
theorem stt_le {B : Nat → Nat} {E : Nat} : ∀ i, stt B E i ≤ E := by
  intro i
  induction i with
  | zero => exact nb_le (Nat.zero_le _)
  | succ i ih =>
    show (if stt B E i < E then nb B E (te B E (stt B E i)) else stt B E i) ≤ E
    split
    · rename_i h
      exact nb_le (te_at h).2
    · exact ih
theorem stt_nb {B : Nat → Nat} {E : Nat} : ∀ i, nb B E (stt B E i) = stt B E i := by
  intro i
  induction i with
  | zero => exact nb_nb (Nat.zero_le _)
  | succ i ih =>
    show nb B E (if stt B E i < E then nb B E (te B E (stt B E i)) else stt B E i) = _
    by_cases h : stt B E i < E
    · rw [stt_S h, if_pos h]; exact nb_nb (te_at h).2
    · rw [if_neg h, ih]
      show _ = (if stt B E i < E then _ else _)
      rw [if_neg h]
theorem stt_bl {B : Nat → Nat} {E i : Nat} (h : stt B E i < E) : ¬ isBl (B (stt B E i)) = true := fun z => by
  have := stt_nb (B := B) (E := E) i
  unfold nb at this
  rw [rn_go h z] at this
  have := (rn_at (q := isBl) (B := B) (E := E) (p := stt B E i + 1) (by omega)).1
  omega
/-- the words -/
def VWL : List (List Nat) := [[99, 104, 105, 108, 100], [97, 103, 101], [103, 114, 105, 112], [115, 105, 122, 101], [119, 97, 114, 109], [119, 111, 114, 116, 104], [115, 104, 117, 116], [109, 111, 110, 116, 104], [107, 110, 111, 116, 116, 101, 100], [119, 105, 115, 104, 101, 100], [110, 111, 116, 104, 105, 110, 103], [97, 110, 100], [111, 114], [110, 111, 116], [105, 102], [108, 111, 111, 115, 101, 110], [108, 101, 97, 100], [116, 104, 105, 110, 103], [109, 101, 97, 110, 116], [119, 105, 115, 104], [107, 110, 111, 116], [101, 109, 112, 116, 121], [110, 111, 110, 101]]
def VW (f : Nat) : List Nat := VWL.getD f []
def tokIs (B : Nat → Nat) (f p len : Nat) : Bool := decide (len = (VW f).length) && allN (fun i => decide (B (p + i) = (VW f).getD i 0)) len
theorem vw_all : (List.range 23).all (fun f => decide (2 ≤ (VW f).length) && decide ((VW f).length ≤ 7) && (List.range 8).all (fun i => decide ((am_sx 1000).getD (8 * f + i) 0 = if i < (VW f).length then Int32.ofNat ((VW f).getD i 0) else Int32.ofNat 32) && (decide ((VW f).length ≤ i) || isLt ((VW f).getD i 0)))) = true := by decide +kernel
theorem vw_at {f : Nat} (hf : f < 23) : 2 ≤ (VW f).length ∧ (VW f).length ≤ 7 ∧ ∀ i, i < 8 → (am_sx 1000).getD (8 * f + i) 0 = (if i < (VW f).length then (Int32.ofNat ((VW f).getD i 0)) else (Int32.ofNat 32)) ∧ (i < (VW f).length → isLt ((VW f).getD i 0) = true) := by
  have := List.all_eq_true.mp vw_all f (List.mem_range.mpr hf)
  rw [Bool.and_eq_true, Bool.and_eq_true, decide_eq_true_eq, decide_eq_true_eq] at this
  refine ⟨this.1.1, this.1.2, fun i hi => ?_⟩
  have h2 := List.all_eq_true.mp this.2 i (List.mem_range.mpr hi)
  rw [Bool.and_eq_true, decide_eq_true_eq, Bool.or_eq_true, decide_eq_true_eq] at h2
  exact ⟨h2.1, fun h => h2.2.resolve_left (by omega)⟩
theorem vw_one_all : (List.range 23).all (fun f => (List.range 23).all (fun g => decide (f = g) || (decide ((VW f).length ≠ (VW g).length) || anyN (fun i => decide ((VW f).getD i 0 ≠ (VW g).getD i 0)) (VW f).length))) = true := by decide +kernel
theorem tok_one {B : Nat → Nat} {f g p len : Nat} (hf : f < 23) (hg : g < 23) (h : tokIs B f p len = true) (h' : tokIs B g p len = true) : f = g := by
  unfold tokIs at h h'
  rw [Bool.and_eq_true, decide_eq_true_eq, allN_iff] at h h'
  have := List.all_eq_true.mp (List.all_eq_true.mp vw_one_all f (List.mem_range.mpr hf)) g (List.mem_range.mpr hg)
  rw [Bool.or_eq_true, Bool.or_eq_true, decide_eq_true_eq, decide_eq_true_eq, anyN_iff] at this
  rcases this with h1 | h1 | ⟨i, i1, i2⟩
  · exact h1
  · exact absurd (h.1.symm.trans h'.1) h1
  · have a := of_decide_eq_true (h.2 i (by omega))
    have b := of_decide_eq_true (h'.2 i (by omega))
    have c := of_decide_eq_true i2
    exact absurd (a.symm.trans b) c
/-- does a field of the vocabulary tell it -/
def fldM (B : Nat → Nat) (p len f : Nat) : Bool := decide ((am_sx 1000).getD (8 * f + len) 0 = (Int32.ofNat 32)) && allN (fun i => decide ((Int32.ofNat (B (p + i))) = (am_sx 1000).getD (8 * f + i) 0)) len
theorem fld_tok {B : Nat → Nat} {f p len : Nat} (hf : f < 23) (hl : len < 8) (hB : ∀ i, i < len → isLt (B (p + i)) = true) : fldM B p len f = tokIs B f p len := by
  obtain ⟨v1, v2, v3⟩ := vw_at hf
  have b32 : ∀ i, i < len → B (p + i) < 256 ∧ B (p + i) ≠ 32 := fun i hi => by
    have := hB i hi
    unfold isLt at this
    rw [decide_eq_true_eq] at this
    omega
  have vlt : ∀ i, i < (VW f).length → (VW f).getD i 0 < 256 ∧ (VW f).getD i 0 ≠ 32 := fun i hi => by
    have := (v3 i (by omega)).2 hi
    unfold isLt at this
    rw [decide_eq_true_eq] at this
    omega
  apply bool_iff
  unfold fldM tokIs
  rw [Bool.and_eq_true, Bool.and_eq_true, decide_eq_true_eq, decide_eq_true_eq, allN_iff, allN_iff]
  constructor
  · rintro ⟨h1, h2⟩
    have hle : len = (VW f).length := by
      by_cases q : len < (VW f).length
      · rw [(v3 len hl).1, if_pos q] at h1
        have := (pn_eq (by have := (vlt len q).1; omega) (by omega)).mp h1
        exact absurd this (vlt len q).2
      · by_cases q2 : (VW f).length < len
        · have := of_decide_eq_true (h2 _ q2)
          rw [(v3 _ (by omega)).1, if_neg (by omega)] at this
          have := (pn_eq (by have := (b32 _ q2).1; omega) (by omega)).mp this
          exact absurd this (b32 _ q2).2
        · omega
    refine ⟨hle, fun i hi => ?_⟩
    have := of_decide_eq_true (h2 i hi)
    rw [(v3 i (by omega)).1, if_pos (by omega)] at this
    exact decide_eq_true ((pn_eq (by have := (b32 i hi).1; omega) (by have := (vlt i (by omega)).1; omega)).mp this)
  · rintro ⟨h1, h2⟩
    refine ⟨by rw [(v3 len hl).1, if_neg (by omega)], fun i hi => ?_⟩
    have := of_decide_eq_true (h2 i hi)
    refine decide_eq_true ?_
    rw [(v3 i (by omega)).1, if_pos (by omega), this]
def numV (B : Nat → Nat) (p : Nat) : Nat → Nat
  | 0 => 0
  | k + 1 => 10 * numV B p k + (B (p + k) - 48)
theorem numV_lt {B : Nat → Nat} {p : Nat} : ∀ k, (∀ i, i < k → isDg (B (p + i)) = true) → numV B p k < 10 ^ k := by
  intro k
  induction k with
  | zero => intro _; exact Nat.one_pos
  | succ k ih =>
    intro h
    have := ih (fun i hi => h i (by omega))
    have h2 := h k (by omega)
    unfold isDg at h2
    rw [decide_eq_true_eq] at h2
    rw [Nat.pow_succ]
    show 10 * numV B p k + (B (p + k) - 48) < _
    omega
/-- the code of what begins at p -/
def cd (B : Nat → Nat) (E p : Nat) : Int32 :=
  if isDg (B p) = true then (if te B E p - p ≤ 3 then (Int32.ofNat (numV B p (te B E p - p))) else -1)
  else if isLt (B p) = true then (if te B E p - p = 1 then (if B p < 105 then (Int32.ofNat (1100 + (B p - 97))) else -1) else if anyN (fun f => tokIs B f p (te B E p - p)) 23 = true then (Int32.ofNat (1000 + fo (fun f => tokIs B f p (te B E p - p)) 23)) else -1)
  else (Int32.ofNat (1200 + B p))
def cdx (B : Nat → Nat) (E i : Nat) : Int32 := if stt B E i < E then cd B E (stt B E i) else -2
theorem lt_dg {b : Nat} (h : isLt b = true) : isDg b = false := by
  unfold isLt at h
  unfold isDg
  rw [decide_eq_true_eq] at h
  exact decide_eq_false (by omega)
theorem tok_len {B : Nat → Nat} {f p len : Nat} (hf : f < 23) (h : tokIs B f p len = true) : 2 ≤ len ∧ len ≤ 7 := by
  obtain ⟨v1, v2, v3⟩ := vw_at hf
  unfold tokIs at h
  rw [Bool.and_eq_true, decide_eq_true_eq] at h
  omega
/-- what a code tells: a word -/
theorem cd_word {B : Nat → Nat} {E p f : Nat} (hp : p < E) (hf : f < 23) (hB : B p < 256) (hl : isLt (B p) = true) : (cd B E p = (Int32.ofNat (1000 + f))) = (tokIs B f p (te B E p - p) = true) := by
  have t := te_at (B := B) hp
  unfold cd
  rw [if_neg (by rw [lt_dg hl]; decide), if_pos hl]
  apply propext
  by_cases h1 : te B E p - p = 1
  · rw [if_pos h1]
    constructor
    · intro h
      split at h
      · have := (pn_eq (by omega) (by omega)).mp h; omega
      · exact absurd h (ne_m1 (by omega))
    · intro h
      have := tok_len hf h
      omega
  · rw [if_neg h1]
    by_cases ha : anyN (fun f => tokIs B f p (te B E p - p)) 23 = true
    · obtain ⟨a1, a2, a3⟩ := fo_at ha
      rw [if_pos ha, pn_eq (by omega) (by omega)]
      constructor
      · intro h
        have : f = fo (fun f => tokIs B f p (te B E p - p)) 23 := by omega
        rw [this]; exact a2
      · intro h
        have := tok_one hf a1 h a2
        omega
    · rw [if_neg ha]
      exact ⟨fun h => absurd h (ne_m1 (by omega)), fun h => absurd (anyN_iff.mpr ⟨f, hf, h⟩) ha⟩
/-! the class's tokens -/
theorem xX_isLetter {b : Nat} (hb : b < 256) (d : Nat) (h : am_H) : am_cl (d + 1) qX_isLetter [.int (Int32.ofNat b)] h = some (.inl (some (bi (isLt b = true))), h) := by
  by_cases q : isLt b = true
  · rw [bi_t q]
    unfold isLt at q
    rw [decide_eq_true_eq] at q
    simp -implicitDefEqProofs (disch := (first | omega | assumption | exact am_isS_3 | exact am_isS_25 | exact am_isX_356 | exact am_isX_359)) only [uX_isLetter, ggX_isLetter_0, ggX_isLetter_1, ggX_isLetter_2, ggX_isLetter_3, ggX_isLetter_4, am_kI_x, am_kV_x, am_kI_i, am_nI_i, am_kV_i, am_nV_i, ↓reduceIte, eq_self, if_true, if_false, c_in, c_tn, pn_add, pn_mul, pn_subc, pn_addm, c_le_t, c_le_f, c_lt_t, c_lt_f, c_eq_f, c_eqm, bi_z, bi_1, bi_b, bi_T, bi_F, ite_not, up_eq, up_ne, or_self, or_true, true_or, or_false, false_or, and_true, true_and, and_self, not_true_eq_false, not_false_eq_true, Bool.false_eq_true]
  · rw [bi_f q]
    unfold isLt at q
    rw [decide_eq_true_eq] at q
    by_cases q1 : b < 97
    · simp -implicitDefEqProofs (disch := (first | omega | assumption | exact am_isS_3 | exact am_isS_25 | exact am_isX_356 | exact am_isX_359)) only [uX_isLetter, ggX_isLetter_0, ggX_isLetter_1, ggX_isLetter_2, ggX_isLetter_3, ggX_isLetter_4, am_kI_x, am_kV_x, am_kI_i, am_nI_i, am_kV_i, am_nV_i, ↓reduceIte, eq_self, if_true, if_false, c_in, c_tn, pn_add, pn_mul, pn_subc, pn_addm, c_le_t, c_le_f, c_lt_t, c_lt_f, c_eq_f, c_eqm, bi_z, bi_1, bi_b, bi_T, bi_F, ite_not, up_eq, up_ne, or_self, or_true, true_or, or_false, false_or, and_true, true_and, and_self, not_true_eq_false, not_false_eq_true, Bool.false_eq_true]
    · simp -implicitDefEqProofs (disch := (first | omega | assumption | exact am_isS_3 | exact am_isS_25 | exact am_isX_356 | exact am_isX_359)) only [uX_isLetter, ggX_isLetter_0, ggX_isLetter_1, ggX_isLetter_2, ggX_isLetter_3, ggX_isLetter_4, am_kI_x, am_kV_x, am_kI_i, am_nI_i, am_kV_i, am_nV_i, ↓reduceIte, eq_self, if_true, if_false, c_in, c_tn, pn_add, pn_mul, pn_subc, pn_addm, c_le_t, c_le_f, c_lt_t, c_lt_f, c_eq_f, c_eqm, bi_z, bi_1, bi_b, bi_T, bi_F, ite_not, up_eq, up_ne, or_self, or_true, true_or, or_false, false_or, and_true, true_and, and_self, not_true_eq_false, not_false_eq_true, Bool.false_eq_true]
theorem xX_isDigit {b : Nat} (hb : b < 256) (d : Nat) (h : am_H) : am_cl (d + 1) qX_isDigit [.int (Int32.ofNat b)] h = some (.inl (some (bi (isDg b = true))), h) := by
  by_cases q : isDg b = true
  · rw [bi_t q]
    unfold isDg at q
    rw [decide_eq_true_eq] at q
    simp -implicitDefEqProofs (disch := (first | omega | assumption | exact am_isS_3 | exact am_isS_25 | exact am_isX_356 | exact am_isX_359)) only [uX_isDigit, ggX_isDigit_0, ggX_isDigit_1, ggX_isDigit_2, ggX_isDigit_3, ggX_isDigit_4, am_kI_x, am_kV_x, am_kI_i, am_nI_i, am_kV_i, am_nV_i, ↓reduceIte, eq_self, if_true, if_false, c_in, c_tn, pn_add, pn_mul, pn_subc, pn_addm, c_le_t, c_le_f, c_lt_t, c_lt_f, c_eq_f, c_eqm, bi_z, bi_1, bi_b, bi_T, bi_F, ite_not, up_eq, up_ne, or_self, or_true, true_or, or_false, false_or, and_true, true_and, and_self, not_true_eq_false, not_false_eq_true, Bool.false_eq_true]
  · rw [bi_f q]
    unfold isDg at q
    rw [decide_eq_true_eq] at q
    by_cases q1 : b < 48
    · simp -implicitDefEqProofs (disch := (first | omega | assumption | exact am_isS_3 | exact am_isS_25 | exact am_isX_356 | exact am_isX_359)) only [uX_isDigit, ggX_isDigit_0, ggX_isDigit_1, ggX_isDigit_2, ggX_isDigit_3, ggX_isDigit_4, am_kI_x, am_kV_x, am_kI_i, am_nI_i, am_kV_i, am_nV_i, ↓reduceIte, eq_self, if_true, if_false, c_in, c_tn, pn_add, pn_mul, pn_subc, pn_addm, c_le_t, c_le_f, c_lt_t, c_lt_f, c_eq_f, c_eqm, bi_z, bi_1, bi_b, bi_T, bi_F, ite_not, up_eq, up_ne, or_self, or_true, true_or, or_false, false_or, and_true, true_and, and_self, not_true_eq_false, not_false_eq_true, Bool.false_eq_true]
    · simp -implicitDefEqProofs (disch := (first | omega | assumption | exact am_isS_3 | exact am_isS_25 | exact am_isX_356 | exact am_isX_359)) only [uX_isDigit, ggX_isDigit_0, ggX_isDigit_1, ggX_isDigit_2, ggX_isDigit_3, ggX_isDigit_4, am_kI_x, am_kV_x, am_kI_i, am_nI_i, am_kV_i, am_nV_i, ↓reduceIte, eq_self, if_true, if_false, c_in, c_tn, pn_add, pn_mul, pn_subc, pn_addm, c_le_t, c_le_f, c_lt_t, c_lt_f, c_eq_f, c_eqm, bi_z, bi_1, bi_b, bi_T, bi_F, ite_not, up_eq, up_ne, or_self, or_true, true_or, or_false, false_or, and_true, true_and, and_self, not_true_eq_false, not_false_eq_true, Bool.false_eq_true]
def tpC (h : am_H) (B : Nat → Nat) (E : Nat) : Prop := E ≤ 400 ∧ h.2 1 1 = (Int32.ofNat E) ∧ ∀ i, i < 400 → B i < 256 ∧ h.2 2 i = (Int32.ofNat (B i))
theorem xX_endOf {h : am_H} {B : Nat → Nat} {E p : Nat} (T : tpC h B E) (hp : p < E) (d : Nat) : am_cl (d + 2) qX_endOf [.ref 1, .int (Int32.ofNat p)] h = some (.inl (some ((Int32.ofNat (te B E p)))), h) := by
  obtain ⟨hE, e1, eb⟩ := T
  obtain ⟨b1, b2⟩ := eb p (by omega)
  have lL : ∀ k j, j + k = E → am_go (am_cl (d + 1)) qX_endOf 1 [.ref 1, .int (Int32.ofNat p), .int (Int32.ofNat 1), .int (Int32.ofNat 0), .int (Int32.ofNat j)] [] h = some (.inl (some ((Int32.ofNat (rn isLt B E j)))), h) := by
    intro k
    induction k with
    | zero =>
      intro j hj
      rw [rn_no (by omega), ggX_endOf_1]
      simp -implicitDefEqProofs (disch := (first | omega | assumption | exact am_isS_3 | exact am_isS_25 | exact am_isX_356 | exact am_isX_359)) only [ggX_endOf_0, ggX_endOf_2, ggX_endOf_3, ggX_endOf_4, ggX_endOf_5, ggX_endOf_6, ggX_endOf_7, ccX_endOf_0_2, ccX_endOf_0_1, ccX_endOf_3_1, ccX_endOf_5_1, e1, am_kI_x, am_kV_x, am_kI_i, am_nI_i, am_kV_i, am_nV_i, ↓reduceIte, eq_self, if_true, if_false, c_in, c_tn, pn_add, pn_mul, pn_subc, pn_addm, c_le_t, c_le_f, c_lt_t, c_lt_f, c_eq_f, c_eqm, bi_z, bi_1, bi_b, bi_T, bi_F, ite_not, up_eq, up_ne, or_self, or_true, true_or, or_false, false_or, and_true, true_and, and_self, not_true_eq_false, not_false_eq_true, Bool.false_eq_true]
    | succ k ih =>
      intro j hj
      obtain ⟨c1, c2⟩ := eb j (by omega)
      have il := fun d => xX_isLetter c1 d h
      by_cases q : isLt (B j) = true
      · have ih := ih (j + 1) (by omega)
        rw [bi_t q] at il
        rw [rn_go (by omega) q, ggX_endOf_1]
        simp -implicitDefEqProofs (disch := (first | omega | assumption | exact am_isS_3 | exact am_isS_25 | exact am_isX_356 | exact am_isX_359)) only [ggX_endOf_0, ggX_endOf_2, ggX_endOf_3, ggX_endOf_4, ggX_endOf_5, ggX_endOf_6, ggX_endOf_7, ccX_endOf_0_2, ccX_endOf_0_1, ccX_endOf_3_1, ccX_endOf_5_1, e1, c2, il, am_kI_x, am_kV_x, am_kI_i, am_nI_i, am_kV_i, am_nV_i, ↓reduceIte, eq_self, if_true, if_false, c_in, c_tn, pn_add, pn_mul, pn_subc, pn_addm, c_le_t, c_le_f, c_lt_t, c_lt_f, c_eq_f, c_eqm, bi_z, bi_1, bi_b, bi_T, bi_F, ite_not, up_eq, up_ne, or_self, or_true, true_or, or_false, false_or, and_true, true_and, and_self, not_true_eq_false, not_false_eq_true, Bool.false_eq_true]
        exact ih
      · rw [bi_f q] at il
        rw [rn_no (fun z => q z.2), ggX_endOf_1]
        simp -implicitDefEqProofs (disch := (first | omega | assumption | exact am_isS_3 | exact am_isS_25 | exact am_isX_356 | exact am_isX_359)) only [ggX_endOf_0, ggX_endOf_2, ggX_endOf_3, ggX_endOf_4, ggX_endOf_5, ggX_endOf_6, ggX_endOf_7, ccX_endOf_0_2, ccX_endOf_0_1, ccX_endOf_3_1, ccX_endOf_5_1, e1, c2, il, am_kI_x, am_kV_x, am_kI_i, am_nI_i, am_kV_i, am_nV_i, ↓reduceIte, eq_self, if_true, if_false, c_in, c_tn, pn_add, pn_mul, pn_subc, pn_addm, c_le_t, c_le_f, c_lt_t, c_lt_f, c_eq_f, c_eqm, bi_z, bi_1, bi_b, bi_T, bi_F, ite_not, up_eq, up_ne, or_self, or_true, true_or, or_false, false_or, and_true, true_and, and_self, not_true_eq_false, not_false_eq_true, Bool.false_eq_true]
  have lD : ∀ k j, j + k = E → am_go (am_cl (d + 1)) qX_endOf 1 [.ref 1, .int (Int32.ofNat p), .int (Int32.ofNat 0), .int (Int32.ofNat 1), .int (Int32.ofNat j)] [] h = some (.inl (some ((Int32.ofNat (rn isDg B E j)))), h) := by
    intro k
    induction k with
    | zero =>
      intro j hj
      rw [rn_no (by omega), ggX_endOf_1]
      simp -implicitDefEqProofs (disch := (first | omega | assumption | exact am_isS_3 | exact am_isS_25 | exact am_isX_356 | exact am_isX_359)) only [ggX_endOf_0, ggX_endOf_2, ggX_endOf_3, ggX_endOf_4, ggX_endOf_5, ggX_endOf_6, ggX_endOf_7, ccX_endOf_0_2, ccX_endOf_0_1, ccX_endOf_3_1, ccX_endOf_5_1, e1, am_kI_x, am_kV_x, am_kI_i, am_nI_i, am_kV_i, am_nV_i, ↓reduceIte, eq_self, if_true, if_false, c_in, c_tn, pn_add, pn_mul, pn_subc, pn_addm, c_le_t, c_le_f, c_lt_t, c_lt_f, c_eq_f, c_eqm, bi_z, bi_1, bi_b, bi_T, bi_F, ite_not, up_eq, up_ne, or_self, or_true, true_or, or_false, false_or, and_true, true_and, and_self, not_true_eq_false, not_false_eq_true, Bool.false_eq_true]
    | succ k ih =>
      intro j hj
      obtain ⟨c1, c2⟩ := eb j (by omega)
      have il := fun d => xX_isDigit c1 d h
      by_cases q : isDg (B j) = true
      · have ih := ih (j + 1) (by omega)
        rw [bi_t q] at il
        rw [rn_go (by omega) q, ggX_endOf_1]
        simp -implicitDefEqProofs (disch := (first | omega | assumption | exact am_isS_3 | exact am_isS_25 | exact am_isX_356 | exact am_isX_359)) only [ggX_endOf_0, ggX_endOf_2, ggX_endOf_3, ggX_endOf_4, ggX_endOf_5, ggX_endOf_6, ggX_endOf_7, ccX_endOf_0_2, ccX_endOf_0_1, ccX_endOf_3_1, ccX_endOf_5_1, e1, c2, il, am_kI_x, am_kV_x, am_kI_i, am_nI_i, am_kV_i, am_nV_i, ↓reduceIte, eq_self, if_true, if_false, c_in, c_tn, pn_add, pn_mul, pn_subc, pn_addm, c_le_t, c_le_f, c_lt_t, c_lt_f, c_eq_f, c_eqm, bi_z, bi_1, bi_b, bi_T, bi_F, ite_not, up_eq, up_ne, or_self, or_true, true_or, or_false, false_or, and_true, true_and, and_self, not_true_eq_false, not_false_eq_true, Bool.false_eq_true]
        exact ih
      · rw [bi_f q] at il
        rw [rn_no (fun z => q z.2), ggX_endOf_1]
        simp -implicitDefEqProofs (disch := (first | omega | assumption | exact am_isS_3 | exact am_isS_25 | exact am_isX_356 | exact am_isX_359)) only [ggX_endOf_0, ggX_endOf_2, ggX_endOf_3, ggX_endOf_4, ggX_endOf_5, ggX_endOf_6, ggX_endOf_7, ccX_endOf_0_2, ccX_endOf_0_1, ccX_endOf_3_1, ccX_endOf_5_1, e1, c2, il, am_kI_x, am_kV_x, am_kI_i, am_nI_i, am_kV_i, am_nV_i, ↓reduceIte, eq_self, if_true, if_false, c_in, c_tn, pn_add, pn_mul, pn_subc, pn_addm, c_le_t, c_le_f, c_lt_t, c_lt_f, c_eq_f, c_eqm, bi_z, bi_1, bi_b, bi_T, bi_F, ite_not, up_eq, up_ne, or_self, or_true, true_or, or_false, false_or, and_true, true_and, and_self, not_true_eq_false, not_false_eq_true, Bool.false_eq_true]
  have i1 := fun d => xX_isLetter b1 d h
  have i2 := fun d => xX_isDigit b1 d h
  unfold te
  by_cases h1 : isLt (B p) = true
  · rw [bi_t h1] at i1
    rw [bi_f (by rw [lt_dg h1]; decide)] at i2
    rw [if_pos h1, rn_go hp h1]
    have f := lL (E - (p + 1)) (p + 1) (by omega)
    simp -implicitDefEqProofs (disch := (first | omega | assumption | exact am_isS_3 | exact am_isS_25 | exact am_isX_356 | exact am_isX_359)) only [uX_endOf, ggX_endOf_0, ggX_endOf_2, ggX_endOf_3, ggX_endOf_4, ggX_endOf_5, ggX_endOf_6, ggX_endOf_7, ccX_endOf_0_2, ccX_endOf_0_1, ccX_endOf_3_1, ccX_endOf_5_1, b2, i1, i2, am_kI_x, am_kV_x, am_kI_i, am_nI_i, am_kV_i, am_nV_i, ↓reduceIte, eq_self, if_true, if_false, c_in, c_tn, pn_add, pn_mul, pn_subc, pn_addm, c_le_t, c_le_f, c_lt_t, c_lt_f, c_eq_f, c_eqm, bi_z, bi_1, bi_b, bi_T, bi_F, ite_not, up_eq, up_ne, or_self, or_true, true_or, or_false, false_or, and_true, true_and, and_self, not_true_eq_false, not_false_eq_true, Bool.false_eq_true]
    exact f
  · rw [bi_f h1] at i1
    rw [if_neg h1]
    by_cases h2 : isDg (B p) = true
    · rw [bi_t h2] at i2
      rw [if_pos h2, rn_go hp h2]
      have f := lD (E - (p + 1)) (p + 1) (by omega)
      simp -implicitDefEqProofs (disch := (first | omega | assumption | exact am_isS_3 | exact am_isS_25 | exact am_isX_356 | exact am_isX_359)) only [uX_endOf, ggX_endOf_0, ggX_endOf_2, ggX_endOf_3, ggX_endOf_4, ggX_endOf_5, ggX_endOf_6, ggX_endOf_7, ccX_endOf_0_2, ccX_endOf_0_1, ccX_endOf_3_1, ccX_endOf_5_1, b2, i1, i2, am_kI_x, am_kV_x, am_kI_i, am_nI_i, am_kV_i, am_nV_i, ↓reduceIte, eq_self, if_true, if_false, c_in, c_tn, pn_add, pn_mul, pn_subc, pn_addm, c_le_t, c_le_f, c_lt_t, c_lt_f, c_eq_f, c_eqm, bi_z, bi_1, bi_b, bi_T, bi_F, ite_not, up_eq, up_ne, or_self, or_true, true_or, or_false, false_or, and_true, true_and, and_self, not_true_eq_false, not_false_eq_true, Bool.false_eq_true]
      exact f
    · rw [bi_f h2] at i2
      rw [if_neg h2]
      by_cases h3 : E ≤ p + 1
      · simp -implicitDefEqProofs (disch := (first | omega | assumption | exact am_isS_3 | exact am_isS_25 | exact am_isX_356 | exact am_isX_359)) only [uX_endOf, ggX_endOf_1, ggX_endOf_0, ggX_endOf_2, ggX_endOf_3, ggX_endOf_4, ggX_endOf_5, ggX_endOf_6, ggX_endOf_7, ccX_endOf_0_2, ccX_endOf_0_1, ccX_endOf_3_1, ccX_endOf_5_1, b2, i1, i2, e1, am_kI_x, am_kV_x, am_kI_i, am_nI_i, am_kV_i, am_nV_i, ↓reduceIte, eq_self, if_true, if_false, c_in, c_tn, pn_add, pn_mul, pn_subc, pn_addm, c_le_t, c_le_f, c_lt_t, c_lt_f, c_eq_f, c_eqm, bi_z, bi_1, bi_b, bi_T, bi_F, ite_not, up_eq, up_ne, or_self, or_true, true_or, or_false, false_or, and_true, true_and, and_self, not_true_eq_false, not_false_eq_true, Bool.false_eq_true]
      · simp -implicitDefEqProofs (disch := (first | omega | assumption | exact am_isS_3 | exact am_isS_25 | exact am_isX_356 | exact am_isX_359)) only [uX_endOf, ggX_endOf_1, ggX_endOf_0, ggX_endOf_2, ggX_endOf_3, ggX_endOf_4, ggX_endOf_5, ggX_endOf_6, ggX_endOf_7, ccX_endOf_0_2, ccX_endOf_0_1, ccX_endOf_3_1, ccX_endOf_5_1, b2, i1, i2, e1, am_kI_x, am_kV_x, am_kI_i, am_nI_i, am_kV_i, am_nV_i, ↓reduceIte, eq_self, if_true, if_false, c_in, c_tn, pn_add, pn_mul, pn_subc, pn_addm, c_le_t, c_le_f, c_lt_t, c_lt_f, c_eq_f, c_eqm, bi_z, bi_1, bi_b, bi_T, bi_F, ite_not, up_eq, up_ne, or_self, or_true, true_or, or_false, false_or, and_true, true_and, and_self, not_true_eq_false, not_false_eq_true, Bool.false_eq_true]
theorem xX_numberOf {h : am_H} {B : Nat → Nat} {E p q : Nat} (T : tpC h B E) (hpq : p ≤ q) (hq : q ≤ E) (hd : ∀ j, p ≤ j → j < q → isDg (B j) = true) (d : Nat) : am_cl (d + 1) qX_numberOf [.ref 1, .int (Int32.ofNat p), .int (Int32.ofNat q)] h = some (.inl (some (if q - p ≤ 3 then (Int32.ofNat (numV B p (q - p))) else -1)), h) := by
  obtain ⟨hE, e1, eb⟩ := T
  by_cases h3 : q - p ≤ 3
  · have l : ∀ k j, j + k = q - p → am_go (am_cl d) qX_numberOf 3 [.ref 1, .int (Int32.ofNat p), .int (Int32.ofNat q), .int (Int32.ofNat (numV B p j)), .int (Int32.ofNat (p + j))] [] h = some (.inl (some ((Int32.ofNat (numV B p (q - p))))), h) := by
      intro k
      induction k with
      | zero =>
        intro j hj
        have hj : j = q - p := by omega
        subst hj
        rw [ggX_numberOf_3]
        simp -implicitDefEqProofs (disch := (first | omega | assumption | exact am_isS_3 | exact am_isS_25 | exact am_isX_356 | exact am_isX_359)) only [ggX_numberOf_0, ggX_numberOf_1, ggX_numberOf_2, ggX_numberOf_4, ggX_numberOf_5, am_kI_x, am_kV_x, am_kI_i, am_nI_i, am_kV_i, am_nV_i, ↓reduceIte, eq_self, if_true, if_false, c_in, c_tn, pn_add, pn_mul, pn_subc, pn_addm, c_le_t, c_le_f, c_lt_t, c_lt_f, c_eq_f, c_eqm, bi_z, bi_1, bi_b, bi_T, bi_F, ite_not, up_eq, up_ne, or_self, or_true, true_or, or_false, false_or, and_true, true_and, and_self, not_true_eq_false, not_false_eq_true, Bool.false_eq_true]
      | succ k ih =>
        intro j hj
        obtain ⟨c1, c2⟩ := eb (p + j) (by omega)
        have ih := ih (j + 1) (by omega)
        have nl := numV_lt (B := B) (p := p) j (fun i hi => hd (p + i) (by omega) (by omega))
        have pj : 10 ^ j ≤ 10 ^ 3 := Nat.pow_le_pow_right (by omega) (by omega)
        have hdj := hd (p + j) (by omega) (by omega)
        unfold isDg at hdj
        rw [decide_eq_true_eq] at hdj
        have en : 10 * numV B p j + B (p + j) - 48 = numV B p (j + 1) := by
          show _ = 10 * numV B p j + (B (p + j) - 48)
          omega
        rw [← en] at ih
        rw [ggX_numberOf_3]
        simp -implicitDefEqProofs (disch := (first | omega | assumption | exact am_isS_3 | exact am_isS_25 | exact am_isX_356 | exact am_isX_359)) only [ggX_numberOf_0, ggX_numberOf_1, ggX_numberOf_2, ggX_numberOf_4, ggX_numberOf_5, c2, am_kI_x, am_kV_x, am_kI_i, am_nI_i, am_kV_i, am_nV_i, ↓reduceIte, eq_self, if_true, if_false, c_in, c_tn, pn_add, pn_mul, pn_subc, pn_addm, c_le_t, c_le_f, c_lt_t, c_lt_f, c_eq_f, c_eqm, bi_z, bi_1, bi_b, bi_T, bi_F, ite_not, up_eq, up_ne, or_self, or_true, true_or, or_false, false_or, and_true, true_and, and_self, not_true_eq_false, not_false_eq_true, Bool.false_eq_true]
        exact ih
    rw [if_pos h3]
    have f := l (q - p) 0 (by omega)
    simp -implicitDefEqProofs (disch := (first | omega | assumption | exact am_isS_3 | exact am_isS_25 | exact am_isX_356 | exact am_isX_359)) only [uX_numberOf, ggX_numberOf_0, ggX_numberOf_1, ggX_numberOf_2, ggX_numberOf_4, ggX_numberOf_5, am_kI_x, am_kV_x, am_kI_i, am_nI_i, am_kV_i, am_nV_i, ↓reduceIte, eq_self, if_true, if_false, c_in, c_tn, pn_add, pn_mul, pn_subc, pn_addm, c_le_t, c_le_f, c_lt_t, c_lt_f, c_eq_f, c_eqm, bi_z, bi_1, bi_b, bi_T, bi_F, ite_not, up_eq, up_ne, or_self, or_true, true_or, or_false, false_or, and_true, true_and, and_self, not_true_eq_false, not_false_eq_true, Bool.false_eq_true]
    exact f
  · rw [if_neg h3]
    simp -implicitDefEqProofs (disch := (first | omega | assumption | exact am_isS_3 | exact am_isS_25 | exact am_isX_356 | exact am_isX_359)) only [uX_numberOf, ggX_numberOf_0, ggX_numberOf_1, ggX_numberOf_2, ggX_numberOf_4, ggX_numberOf_5, am_kI_x, am_kV_x, am_kI_i, am_nI_i, am_kV_i, am_nV_i, ↓reduceIte, eq_self, if_true, if_false, c_in, c_tn, pn_add, pn_mul, pn_subc, pn_addm, c_le_t, c_le_f, c_lt_t, c_lt_f, c_eq_f, c_eqm, bi_z, bi_1, bi_b, bi_T, bi_F, ite_not, up_eq, up_ne, or_self, or_true, true_or, or_false, false_or, and_true, true_and, and_self, not_true_eq_false, not_false_eq_true, Bool.false_eq_true]
theorem sk_1000 : am_sk 1000 = true := rfl
theorem sx_1000 : (am_sx 1000).length = 184 := by decide +kernel
theorem xX_isField {h : am_H} {B : Nat → Nat} {E p q f : Nat} (T : tpC h B E) (hpq : p ≤ q) (hq : q ≤ E) (hl : q - p < 8) (hf : f < 23) (d : Nat) : am_cl (d + 1) qX_isField [.ref 1, .int (Int32.ofNat p), .int (Int32.ofNat q), .int (Int32.ofNat (8 * f))] h = some (.inl (some (bi (allN (fun i => decide ((Int32.ofNat (B (p + i))) = (am_sx 1000).getD (8 * f + i) 0)) (q - p) = true))), h) := by
  obtain ⟨hE, e1, eb⟩ := T
  have l : ∀ k j, j + k = q - p → allN (fun i => decide ((Int32.ofNat (B (p + i))) = (am_sx 1000).getD (8 * f + i) 0)) j = true → am_go (am_cl d) qX_isField 1 [.ref 1, .int (Int32.ofNat p), .int (Int32.ofNat q), .int (Int32.ofNat (8 * f)), .int (Int32.ofNat (p + j))] [] h = some (.inl (some (bi (allN (fun i => decide ((Int32.ofNat (B (p + i))) = (am_sx 1000).getD (8 * f + i) 0)) (q - p) = true))), h) := by
    intro k
    induction k with
    | zero =>
      intro j hj hA
      have hj : j = q - p := by omega
      subst hj
      rw [bi_t hA, ggX_isField_1]
      simp -implicitDefEqProofs (disch := (first | omega | assumption | exact am_isS_3 | exact am_isS_25 | exact am_isX_356 | exact am_isX_359)) only [ggX_isField_0, ggX_isField_2, ggX_isField_3, ggX_isField_4, ggX_isField_5, am_kI_x, am_kV_x, am_kI_i, am_nI_i, am_kV_i, am_nV_i, ↓reduceIte, eq_self, if_true, if_false, c_in, c_tn, pn_add, pn_mul, pn_subc, pn_addm, c_le_t, c_le_f, c_lt_t, c_lt_f, c_eq_f, c_eqm, bi_z, bi_1, bi_b, bi_T, bi_F, ite_not, up_eq, up_ne, or_self, or_true, true_or, or_false, false_or, and_true, true_and, and_self, not_true_eq_false, not_false_eq_true, Bool.false_eq_true]
    | succ k ih =>
      intro j hj hA
      obtain ⟨c1, c2⟩ := eb (p + j) (by omega)
      have ex : 8 * f + (p + j) - p = 8 * f + j := by omega
      by_cases hz : (Int32.ofNat (B (p + j))) = (am_sx 1000).getD (8 * f + j) 0
      · have ih := ih (j + 1) (by omega) (by rw [allN_S, hA]; exact decide_eq_true hz)
        rw [ggX_isField_1]
        simp -implicitDefEqProofs (disch := (first | omega | assumption | exact am_isS_3 | exact am_isS_25 | exact am_isX_356 | exact am_isX_359)) only [ggX_isField_0, ggX_isField_2, ggX_isField_3, ggX_isField_4, ggX_isField_5, c2, sk_1000, sx_1000, ex, hz, am_kI_x, am_kV_x, am_kI_i, am_nI_i, am_kV_i, am_nV_i, ↓reduceIte, eq_self, if_true, if_false, c_in, c_tn, pn_add, pn_mul, pn_subc, pn_addm, c_le_t, c_le_f, c_lt_t, c_lt_f, c_eq_f, c_eqm, bi_z, bi_1, bi_b, bi_T, bi_F, ite_not, up_eq, up_ne, or_self, or_true, true_or, or_false, false_or, and_true, true_and, and_self, not_true_eq_false, not_false_eq_true, Bool.false_eq_true]
        exact ih
      · rw [bi_f (by rw [allN_f (i := j) (by omega) (decide_eq_false hz)]; decide), ggX_isField_1]
        simp -implicitDefEqProofs (disch := (first | omega | assumption | exact am_isS_3 | exact am_isS_25 | exact am_isX_356 | exact am_isX_359)) only [ggX_isField_0, ggX_isField_2, ggX_isField_3, ggX_isField_4, ggX_isField_5, c2, sk_1000, sx_1000, ex, hz, am_kI_x, am_kV_x, am_kI_i, am_nI_i, am_kV_i, am_nV_i, ↓reduceIte, eq_self, if_true, if_false, c_in, c_tn, pn_add, pn_mul, pn_subc, pn_addm, c_le_t, c_le_f, c_lt_t, c_lt_f, c_eq_f, c_eqm, bi_z, bi_1, bi_b, bi_T, bi_F, ite_not, up_eq, up_ne, or_self, or_true, true_or, or_false, false_or, and_true, true_and, and_self, not_true_eq_false, not_false_eq_true, Bool.false_eq_true]
  rw [uX_isField, ggX_isField_0]
  exact l (q - p) 0 (by omega) rfl
theorem xX_wordOf {h : am_H} {B : Nat → Nat} {E p q : Nat} (T : tpC h B E) (hpq : p < q) (hq : q ≤ E) (hB : ∀ j, p ≤ j → j < q → isLt (B j) = true) (d : Nat) : am_cl (d + 2) qX_wordOf [.ref 1, .int (Int32.ofNat p), .int (Int32.ofNat q)] h = some (.inl (some (if anyN (fun f => tokIs B f p (q - p)) 23 = true then (Int32.ofNat (1000 + fo (fun f => tokIs B f p (q - p)) 23)) else -1)), h) := by
  have hE := T.1
  by_cases h8 : q - p < 8
  · have l : ∀ k f, f + k = 23 → (∀ f', f' < f → ¬ tokIs B f' p (q - p) = true) → am_go (am_cl (d + 1)) qX_wordOf 1 [.ref 1, .int (Int32.ofNat p), .int (Int32.ofNat q), .int (Int32.ofNat (8 * f))] [] h = some (.inl (some (if anyN (fun f => tokIs B f p (q - p)) 23 = true then (Int32.ofNat (1000 + fo (fun f => tokIs B f p (q - p)) 23)) else -1)), h) := by
      intro k
      induction k with
      | zero =>
        intro f hf hn
        have hf : f = 23 := by omega
        subst hf
        rw [if_neg (fun z => by
          obtain ⟨i, i1, i2⟩ := anyN_iff.mp z
          exact hn i i1 i2), ggX_wordOf_1]
        simp -implicitDefEqProofs (disch := (first | omega | assumption | exact am_isS_3 | exact am_isS_25 | exact am_isX_356 | exact am_isX_359)) only [ggX_wordOf_0, ggX_wordOf_2, ggX_wordOf_3, ggX_wordOf_4, ggX_wordOf_5, ggX_wordOf_6, ggX_wordOf_7, ccX_wordOf_4_1, sk_1000, sx_1000, am_kI_x, am_kV_x, am_kI_i, am_nI_i, am_kV_i, am_nV_i, ↓reduceIte, eq_self, if_true, if_false, c_in, c_tn, pn_add, pn_mul, pn_subc, pn_addm, c_le_t, c_le_f, c_lt_t, c_lt_f, c_eq_f, c_eqm, bi_z, bi_1, bi_b, bi_T, bi_F, ite_not, up_eq, up_ne, or_self, or_true, true_or, or_false, false_or, and_true, true_and, and_self, not_true_eq_false, not_false_eq_true, Bool.false_eq_true]
      | succ k ih =>
        intro f hf hn
        have hf23 : f < 23 := by omega
        have ef := fun d => xX_isField T (p := p) (q := q) (by omega) hq h8 hf23 d
        have et := fld_tok (B := B) (p := p) (len := q - p) hf23 h8 (fun i hi => hB (p + i) (by omega) (by omega))
        have ex : 8 * f + q - p = 8 * f + (q - p) := by omega
        have ed : 8 * f / 8 = f := by omega
        by_cases hz : tokIs B f p (q - p) = true
        · have hfo : fo (fun f => tokIs B f p (q - p)) 23 = f := fo_un hf23 hz hn
          rw [if_pos (anyN_iff.mpr ⟨f, hf23, hz⟩), hfo]
          rw [hz] at et
          unfold fldM at et
          rw [Bool.and_eq_true, decide_eq_true_eq] at et
          rw [bi_t et.2] at ef
          have e1 := et.1
          rw [ggX_wordOf_1]
          simp -implicitDefEqProofs (disch := (first | omega | assumption | exact am_isS_3 | exact am_isS_25 | exact am_isX_356 | exact am_isX_359)) only [ggX_wordOf_0, ggX_wordOf_2, ggX_wordOf_3, ggX_wordOf_4, ggX_wordOf_5, ggX_wordOf_6, ggX_wordOf_7, ccX_wordOf_4_1, sk_1000, sx_1000, ex, e1, ef, pn_div, ed, am_kI_x, am_kV_x, am_kI_i, am_nI_i, am_kV_i, am_nV_i, ↓reduceIte, eq_self, if_true, if_false, c_in, c_tn, pn_add, pn_mul, pn_subc, pn_addm, c_le_t, c_le_f, c_lt_t, c_lt_f, c_eq_f, c_eqm, bi_z, bi_1, bi_b, bi_T, bi_F, ite_not, up_eq, up_ne, or_self, or_true, true_or, or_false, false_or, and_true, true_and, and_self, not_true_eq_false, not_false_eq_true, Bool.false_eq_true]
        · have ih := ih (f + 1) (by omega) (fun f' h1 => by
            by_cases w : f' = f
            · rw [w]; exact hz
            · exact hn f' (by omega))
          rw [show 8 * (f + 1) = 8 * f + 8 by omega] at ih
          rw [Bool.eq_false_iff.mpr hz] at et
          unfold fldM at et
          rw [ggX_wordOf_1]
          by_cases e1 : (am_sx 1000).getD (8 * f + (q - p)) 0 = (Int32.ofNat 32)
          · rw [decide_eq_true e1, Bool.true_and] at et
            rw [bi_f (by rw [et]; decide)] at ef
            simp -implicitDefEqProofs (disch := (first | omega | assumption | exact am_isS_3 | exact am_isS_25 | exact am_isX_356 | exact am_isX_359)) only [ggX_wordOf_0, ggX_wordOf_2, ggX_wordOf_3, ggX_wordOf_4, ggX_wordOf_5, ggX_wordOf_6, ggX_wordOf_7, ccX_wordOf_4_1, sk_1000, sx_1000, ex, e1, ef, am_kI_x, am_kV_x, am_kI_i, am_nI_i, am_kV_i, am_nV_i, ↓reduceIte, eq_self, if_true, if_false, c_in, c_tn, pn_add, pn_mul, pn_subc, pn_addm, c_le_t, c_le_f, c_lt_t, c_lt_f, c_eq_f, c_eqm, bi_z, bi_1, bi_b, bi_T, bi_F, ite_not, up_eq, up_ne, or_self, or_true, true_or, or_false, false_or, and_true, true_and, and_self, not_true_eq_false, not_false_eq_true, Bool.false_eq_true]
            exact ih
          · simp -implicitDefEqProofs (disch := (first | omega | assumption | exact am_isS_3 | exact am_isS_25 | exact am_isX_356 | exact am_isX_359)) only [ggX_wordOf_0, ggX_wordOf_2, ggX_wordOf_3, ggX_wordOf_4, ggX_wordOf_5, ggX_wordOf_6, ggX_wordOf_7, ccX_wordOf_4_1, sk_1000, sx_1000, ex, e1, am_kI_x, am_kV_x, am_kI_i, am_nI_i, am_kV_i, am_nV_i, ↓reduceIte, eq_self, if_true, if_false, c_in, c_tn, pn_add, pn_mul, pn_subc, pn_addm, c_le_t, c_le_f, c_lt_t, c_lt_f, c_eq_f, c_eqm, bi_z, bi_1, bi_b, bi_T, bi_F, ite_not, up_eq, up_ne, or_self, or_true, true_or, or_false, false_or, and_true, true_and, and_self, not_true_eq_false, not_false_eq_true, Bool.false_eq_true]
            exact ih
    have f := l 23 0 (by omega) (fun f' h1 => by omega)
    rw [uX_wordOf, ggX_wordOf_0]
    exact f
  · rw [if_neg (fun z => by
      obtain ⟨i, i1, i2⟩ := anyN_iff.mp z
      have := tok_len i1 i2
      omega)]
    simp -implicitDefEqProofs (disch := (first | omega | assumption | exact am_isS_3 | exact am_isS_25 | exact am_isX_356 | exact am_isX_359)) only [uX_wordOf, ggX_wordOf_1, ggX_wordOf_0, ggX_wordOf_2, ggX_wordOf_3, ggX_wordOf_4, ggX_wordOf_5, ggX_wordOf_6, ggX_wordOf_7, ccX_wordOf_4_1, am_kI_x, am_kV_x, am_kI_i, am_nI_i, am_kV_i, am_nV_i, ↓reduceIte, eq_self, if_true, if_false, c_in, c_tn, pn_add, pn_mul, pn_subc, pn_addm, c_le_t, c_le_f, c_lt_t, c_lt_f, c_eq_f, c_eqm, bi_z, bi_1, bi_b, bi_T, bi_F, ite_not, up_eq, up_ne, or_self, or_true, true_or, or_false, false_or, and_true, true_and, and_self, not_true_eq_false, not_false_eq_true, Bool.false_eq_true]
theorem xX_codeOf {h : am_H} {B : Nat → Nat} {E p : Nat} (T : tpC h B E) (hp : p < E) (d : Nat) : am_cl (d + 3) qX_codeOf [.ref 1, .int (Int32.ofNat p), .int (Int32.ofNat (te B E p))] h = some (.inl (some (cd B E p)), h) := by
  have hE := T.1
  obtain ⟨b1, b2⟩ := T.2.2 p (by omega)
  obtain ⟨t1, t2⟩ := te_at (B := B) hp
  have i1 := fun d => xX_isLetter b1 d h
  have i2 := fun d => xX_isDigit b1 d h
  by_cases h2 : isDg (B p) = true
  · have h1 : isLt (B p) = false := by
      cases hh : isLt (B p) with
      | false => rfl
      | true => rw [lt_dg hh] at h2; exact absurd h2 (by decide)
    have et : te B E p = rn isDg B E p := by unfold te; rw [h1, if_neg (by decide), if_pos h2]
    have en := fun d => xX_numberOf T (p := p) (q := te B E p) (by omega) t2 (fun j j1 j2 => by rw [et] at j2; exact (rn_at (q := isDg) (B := B) (E := E) (p := p) (by omega)).2.2.1 j j1 j2) d
    rw [bi_t h2] at i2
    unfold cd
    rw [if_pos h2]
    simp -implicitDefEqProofs (disch := (first | omega | assumption | exact am_isS_3 | exact am_isS_25 | exact am_isX_356 | exact am_isX_359)) only [uX_codeOf, ggX_codeOf_0, ggX_codeOf_1, ggX_codeOf_2, ggX_codeOf_3, ggX_codeOf_4, ggX_codeOf_5, ggX_codeOf_6, ggX_codeOf_7, ggX_codeOf_8, ggX_codeOf_9, ccX_codeOf_0_1, ccX_codeOf_1_1, ccX_codeOf_2_1, ccX_codeOf_9_1, b2, i2, en, am_kI_x, am_kV_x, am_kI_i, am_nI_i, am_kV_i, am_nV_i, ↓reduceIte, eq_self, if_true, if_false, c_in, c_tn, pn_add, pn_mul, pn_subc, pn_addm, c_le_t, c_le_f, c_lt_t, c_lt_f, c_eq_f, c_eqm, bi_z, bi_1, bi_b, bi_T, bi_F, ite_not, up_eq, up_ne, or_self, or_true, true_or, or_false, false_or, and_true, true_and, and_self, not_true_eq_false, not_false_eq_true, Bool.false_eq_true]
  · rw [bi_f h2] at i2
    unfold cd
    rw [if_neg h2]
    by_cases h1 : isLt (B p) = true
    · have et : te B E p = rn isLt B E p := by unfold te; rw [if_pos h1]
      have ew := fun d => xX_wordOf T (p := p) (q := te B E p) t1 t2 (fun j j1 j2 => by rw [et] at j2; exact (rn_at (q := isLt) (B := B) (E := E) (p := p) (by omega)).2.2.1 j j1 j2) d
      rw [bi_t h1] at i1
      rw [if_pos h1]
      have hr := h1
      unfold isLt at hr
      rw [decide_eq_true_eq] at hr
      by_cases h3 : te B E p - p = 1
      · rw [if_pos h3]
        by_cases h4 : B p < 105
        · have e4 : 1100 + B p - 97 = 1100 + (B p - 97) := by omega
          rw [if_pos h4]
          simp -implicitDefEqProofs (disch := (first | omega | assumption | exact am_isS_3 | exact am_isS_25 | exact am_isX_356 | exact am_isX_359)) only [uX_codeOf, ggX_codeOf_0, ggX_codeOf_1, ggX_codeOf_2, ggX_codeOf_3, ggX_codeOf_4, ggX_codeOf_5, ggX_codeOf_6, ggX_codeOf_7, ggX_codeOf_8, ggX_codeOf_9, ccX_codeOf_0_1, ccX_codeOf_1_1, ccX_codeOf_2_1, ccX_codeOf_9_1, b2, i2, i1, h3, e4, am_kI_x, am_kV_x, am_kI_i, am_nI_i, am_kV_i, am_nV_i, ↓reduceIte, eq_self, if_true, if_false, c_in, c_tn, pn_add, pn_mul, pn_subc, pn_addm, c_le_t, c_le_f, c_lt_t, c_lt_f, c_eq_f, c_eqm, bi_z, bi_1, bi_b, bi_T, bi_F, ite_not, up_eq, up_ne, or_self, or_true, true_or, or_false, false_or, and_true, true_and, and_self, not_true_eq_false, not_false_eq_true, Bool.false_eq_true]
        · rw [if_neg h4]
          simp -implicitDefEqProofs (disch := (first | omega | assumption | exact am_isS_3 | exact am_isS_25 | exact am_isX_356 | exact am_isX_359)) only [uX_codeOf, ggX_codeOf_0, ggX_codeOf_1, ggX_codeOf_2, ggX_codeOf_3, ggX_codeOf_4, ggX_codeOf_5, ggX_codeOf_6, ggX_codeOf_7, ggX_codeOf_8, ggX_codeOf_9, ccX_codeOf_0_1, ccX_codeOf_1_1, ccX_codeOf_2_1, ccX_codeOf_9_1, b2, i2, i1, h3, am_kI_x, am_kV_x, am_kI_i, am_nI_i, am_kV_i, am_nV_i, ↓reduceIte, eq_self, if_true, if_false, c_in, c_tn, pn_add, pn_mul, pn_subc, pn_addm, c_le_t, c_le_f, c_lt_t, c_lt_f, c_eq_f, c_eqm, bi_z, bi_1, bi_b, bi_T, bi_F, ite_not, up_eq, up_ne, or_self, or_true, true_or, or_false, false_or, and_true, true_and, and_self, not_true_eq_false, not_false_eq_true, Bool.false_eq_true]
      · rw [if_neg h3]
        simp -implicitDefEqProofs (disch := (first | omega | assumption | exact am_isS_3 | exact am_isS_25 | exact am_isX_356 | exact am_isX_359)) only [uX_codeOf, ggX_codeOf_0, ggX_codeOf_1, ggX_codeOf_2, ggX_codeOf_3, ggX_codeOf_4, ggX_codeOf_5, ggX_codeOf_6, ggX_codeOf_7, ggX_codeOf_8, ggX_codeOf_9, ccX_codeOf_0_1, ccX_codeOf_1_1, ccX_codeOf_2_1, ccX_codeOf_9_1, b2, i2, i1, ew, am_kI_x, am_kV_x, am_kI_i, am_nI_i, am_kV_i, am_nV_i, ↓reduceIte, eq_self, if_true, if_false, c_in, c_tn, pn_add, pn_mul, pn_subc, pn_addm, c_le_t, c_le_f, c_lt_t, c_lt_f, c_eq_f, c_eqm, bi_z, bi_1, bi_b, bi_T, bi_F, ite_not, up_eq, up_ne, or_self, or_true, true_or, or_false, false_or, and_true, true_and, and_self, not_true_eq_false, not_false_eq_true, Bool.false_eq_true]
    · rw [bi_f h1] at i1
      rw [if_neg h1]
      simp -implicitDefEqProofs (disch := (first | omega | assumption | exact am_isS_3 | exact am_isS_25 | exact am_isX_356 | exact am_isX_359)) only [uX_codeOf, ggX_codeOf_0, ggX_codeOf_1, ggX_codeOf_2, ggX_codeOf_3, ggX_codeOf_4, ggX_codeOf_5, ggX_codeOf_6, ggX_codeOf_7, ggX_codeOf_8, ggX_codeOf_9, ccX_codeOf_0_1, ccX_codeOf_1_1, ccX_codeOf_2_1, ccX_codeOf_9_1, b2, i2, i1, am_kI_x, am_kV_x, am_kI_i, am_nI_i, am_kV_i, am_nV_i, ↓reduceIte, eq_self, if_true, if_false, c_in, c_tn, pn_add, pn_mul, pn_subc, pn_addm, c_le_t, c_le_f, c_lt_t, c_lt_f, c_eq_f, c_eqm, bi_z, bi_1, bi_b, bi_T, bi_F, ite_not, up_eq, up_ne, or_self, or_true, true_or, or_false, false_or, and_true, true_and, and_self, not_true_eq_false, not_false_eq_true, Bool.false_eq_true]
/-- the tokens lie in the class's rows -/
def TV (h : am_H) (x : Nat) (B : Nat → Nat) (E n : Nat) : Prop := n ≤ 400 ∧ h.2 x 2 = (Int32.ofNat n) ∧ stt B E n = E ∧ (∀ i, i < n → stt B E i < E) ∧ ∀ i, i ≤ n → h.2 (x + 1) i = cdx B E i ∧ h.2 (x + 2) i = (Int32.ofNat (stt B E i))
theorem xX_split {x : Nat} (hx : am_isX x) (hx2 : 300 ≤ x) {B : Nat → Nat} {E : Nat} (d : Nat) : ∀ (k i fr m : Nat) (h : am_H) (x4 : Value), i + k = 401 → tpC h B E → i ≤ fr → m ≤ i → fr ≤ E → nb B E fr = stt B E m → (∀ j, j < m → stt B E j < E) → h.2 x 2 = (Int32.ofNat m) → (∀ j, j < m → h.2 (x + 1) j = cdx B E j ∧ h.2 (x + 2) j = (Int32.ofNat (stt B E j))) → ∃ h' n, am_go (am_cl (d + 3)) qX_split 1 [.ref x, .ref 1, .int (Int32.ofNat fr), .int (Int32.ofNat i), x4] [] h = some (.inl none, h') ∧ h'.1 = h.1 ∧ TV h' x B E n ∧ (∀ p j, p ≠ x + 1 → p ≠ x + 2 → (p ≠ x ∨ j ≠ 2) → h'.2 p j = h.2 p j) := by
  have fin : ∀ (fr m i : Nat) (h : am_H) (x4 : Value), tpC h B E → fr = E → m ≤ fr → nb B E fr = stt B E m → (∀ j, j < m → stt B E j < E) → h.2 x 2 = (Int32.ofNat m) → (∀ j, j < m → h.2 (x + 1) j = cdx B E j ∧ h.2 (x + 2) j = (Int32.ofNat (stt B E j))) → ∃ h' n, am_go (am_cl (d + 3)) qX_split 7 [.ref x, .ref 1, .int (Int32.ofNat fr), .int (Int32.ofNat i), x4] [] h = some (.inl none, h') ∧ h'.1 = h.1 ∧ TV h' x B E n ∧ (∀ p j, p ≠ x + 1 → p ≠ x + 2 → (p ≠ x ∨ j ≠ 2) → h'.2 p j = h.2 p j) := by
    intro fr m i h x4 T hfr hm hnb hst e2 et
    obtain ⟨hE, e1, eb⟩ := T
    subst hfr
    have hsE : stt B fr m = fr := by rw [← hnb]; exact rn_no (by omega)
    refine ⟨am_up (am_up h (x + 1) m (-2)) (x + 2) m (Int32.ofNat fr), m, ?_, rfl, ⟨by omega, by rw [up_ne (by omega), up_ne (by omega)]; exact e2, hsE, hst, fun j hj => ?_⟩, fun p j p1 p2 p3 => by rw [up_ne (by omega), up_ne (by omega)]⟩
    · simp -implicitDefEqProofs (disch := (first | omega | assumption | exact am_isS_3 | exact am_isS_25 | exact am_isX_356 | exact am_isX_359)) only [ggX_split_0, ggX_split_2, ggX_split_3, ggX_split_4, ggX_split_5, ggX_split_6, ggX_split_7, ccX_split_5_2, ccX_split_5_1, e2, e1, am_kI_x, am_kV_x, am_kI_i, am_nI_i, am_kV_i, am_nV_i, ↓reduceIte, eq_self, if_true, if_false, c_in, c_tn, pn_add, pn_mul, pn_subc, pn_addm, c_le_t, c_le_f, c_lt_t, c_lt_f, c_eq_f, c_eqm, bi_z, bi_1, bi_b, bi_T, bi_F, ite_not, up_eq, up_ne, or_self, or_true, true_or, or_false, false_or, and_true, true_and, and_self, not_true_eq_false, not_false_eq_true, Bool.false_eq_true]
    · by_cases z : j = m
      · rw [z, up_ne (by omega), up_eq rfl rfl, up_eq rfl rfl, hsE]
        refine ⟨?_, rfl⟩
        unfold cdx
        rw [if_neg (by omega)]
      · rw [up_ne (by omega), up_ne (by omega), up_ne (by omega), up_ne (by omega)]
        exact et j (by omega)
  intro k
  induction k with
  | zero => intro i fr m h x4 hi T h1 h2 h3; have := T.1; omega
  | succ k ih =>
    intro i fr m h x4 hi T h1 h2 h3 hnb hst e2 et
    obtain ⟨hE, e1, eb⟩ := id T
    rw [ggX_split_1 _ _ _ _ _ hx]
    by_cases hfE : fr = E
    · obtain ⟨h', n, a, b, c, e⟩ := fin fr m i h x4 T hfE (by omega) hnb hst e2 et
      refine ⟨h', n, ?_, b, c, e⟩
      by_cases h400 : 400 ≤ i
      · simp -implicitDefEqProofs (disch := (first | omega | assumption | exact am_isS_3 | exact am_isS_25 | exact am_isX_356 | exact am_isX_359)) only [ggX_split_0, ggX_split_2, ggX_split_3, ggX_split_4, ggX_split_5, ggX_split_6, ccX_split_5_2, ccX_split_5_1, am_kI_x, am_kV_x, am_kI_i, am_nI_i, am_kV_i, am_nV_i, ↓reduceIte, eq_self, if_true, if_false, c_in, c_tn, pn_add, pn_mul, pn_subc, pn_addm, c_le_t, c_le_f, c_lt_t, c_lt_f, c_eq_f, c_eqm, bi_z, bi_1, bi_b, bi_T, bi_F, ite_not, up_eq, up_ne, or_self, or_true, true_or, or_false, false_or, and_true, true_and, and_self, not_true_eq_false, not_false_eq_true, Bool.false_eq_true]
        exact a
      · simp -implicitDefEqProofs (disch := (first | omega | assumption | exact am_isS_3 | exact am_isS_25 | exact am_isX_356 | exact am_isX_359)) only [ggX_split_0, ggX_split_2, ggX_split_3, ggX_split_4, ggX_split_5, ggX_split_6, ccX_split_5_2, ccX_split_5_1, e1, am_kI_x, am_kV_x, am_kI_i, am_nI_i, am_kV_i, am_nV_i, ↓reduceIte, eq_self, if_true, if_false, c_in, c_tn, pn_add, pn_mul, pn_subc, pn_addm, c_le_t, c_le_f, c_lt_t, c_lt_f, c_eq_f, c_eqm, bi_z, bi_1, bi_b, bi_T, bi_F, ite_not, up_eq, up_ne, or_self, or_true, true_or, or_false, false_or, and_true, true_and, and_self, not_true_eq_false, not_false_eq_true, Bool.false_eq_true]
        exact a
    · have hfr : fr < E := by omega
      obtain ⟨c1, c2⟩ := eb fr (by omega)
      by_cases hb : B fr = 32
      · obtain ⟨h', n, a, b, c, e⟩ := ih (i + 1) (fr + 1) m h x4 (by omega) T (by omega) (by omega) (by omega) (by rw [← hnb]; exact (rn_go hfr (decide_eq_true hb)).symm) hst e2 et
        refine ⟨h', n, ?_, b, c, e⟩
        simp -implicitDefEqProofs (disch := (first | omega | assumption | exact am_isS_3 | exact am_isS_25 | exact am_isX_356 | exact am_isX_359)) only [ggX_split_0, ggX_split_2, ggX_split_3, ggX_split_4, ggX_split_5, ggX_split_6, ccX_split_5_2, ccX_split_5_1, e1, c2, hb, am_kI_x, am_kV_x, am_kI_i, am_nI_i, am_kV_i, am_nV_i, ↓reduceIte, eq_self, if_true, if_false, c_in, c_tn, pn_add, pn_mul, pn_subc, pn_addm, c_le_t, c_le_f, c_lt_t, c_lt_f, c_eq_f, c_eqm, bi_z, bi_1, bi_b, bi_T, bi_F, ite_not, up_eq, up_ne, or_self, or_true, true_or, or_false, false_or, and_true, true_and, and_self, not_true_eq_false, not_false_eq_true, Bool.false_eq_true]
        exact a
      · have hs : stt B E m = fr := by rw [← hnb]; exact rn_no (fun z => hb (of_decide_eq_true z.2))
        obtain ⟨t1, t2⟩ := te_at (B := B) hfr
        have ee := fun d => xX_endOf T hfr d
        have ec := fun d => xX_codeOf T hfr d
        obtain ⟨h', n, a, b, c, e⟩ := ih (i + 1) (te B E fr) (m + 1) (am_up (am_up (am_up h (x + 1) m (cd B E fr)) (x + 2) m (Int32.ofNat fr)) x 2 (Int32.ofNat (m + 1))) (.int (Int32.ofNat (te B E fr))) (by omega) ⟨hE, by rw [up_ne (by omega), up_ne (by omega), up_ne (by omega)]; exact e1, fun j hj => by rw [up_ne (by omega), up_ne (by omega), up_ne (by omega)]; exact eb j hj⟩ (by omega) (by omega) t2 (by rw [stt_S (by omega), hs]) (fun j hj => by
          by_cases z : j = m
          · rw [z]; omega
          · exact hst j (by omega)) (up_eq rfl rfl) (fun j hj => by
          by_cases z : j = m
          · rw [z, up_ne (by omega), up_ne (by omega), up_eq rfl rfl, up_ne (by omega), up_eq rfl rfl, hs]
            refine ⟨?_, rfl⟩
            unfold cdx
            rw [hs, if_pos hfr]
          · rw [up_ne (by omega), up_ne (by omega), up_ne (by omega), up_ne (by omega), up_ne (by omega), up_ne (by omega)]
            exact et j (by omega))
        refine ⟨h', n, ?_, b, c, fun p j p1 p2 p3 => by rw [e p j p1 p2 p3, up_ne (by omega), up_ne (by omega), up_ne (by omega)]⟩
        simp -implicitDefEqProofs (disch := (first | omega | assumption | exact am_isS_3 | exact am_isS_25 | exact am_isX_356 | exact am_isX_359)) only [ggX_split_0, ggX_split_2, ggX_split_3, ggX_split_4, ggX_split_5, ggX_split_6, ccX_split_5_2, ccX_split_5_1, e1, c2, ee, ec, e2, am_kI_x, am_kV_x, am_kI_i, am_nI_i, am_kV_i, am_nV_i, ↓reduceIte, eq_self, if_true, if_false, c_in, c_tn, pn_add, pn_mul, pn_subc, pn_addm, c_le_t, c_le_f, c_lt_t, c_lt_f, c_eq_f, c_eqm, bi_z, bi_1, bi_b, bi_T, bi_F, ite_not, up_eq, up_ne, or_self, or_true, true_or, or_false, false_or, and_true, true_and, and_self, not_true_eq_false, not_false_eq_true, Bool.false_eq_true]
        exact a

/-! sets as bits -/
def tb (x : Int32) (c : Nat) : Bool := x.toBitVec.getLsbD c
theorem tb_ext {x y : Int32} (h : ∀ c, c < 32 → tb x c = tb y c) : x = y := by
  apply Int32.toBitVec_inj.mp
  apply BitVec.eq_of_getLsbD_eq
  intro i hi
  exact h i hi
theorem tb_and (x y : Int32) (c : Nat) : tb (x &&& y) c = (tb x c && tb y c) := by
  have : (x &&& y).toBitVec = x.toBitVec &&& y.toBitVec := rfl
  unfold tb
  rw [this, BitVec.getLsbD_and]
theorem tb_or (x y : Int32) (c : Nat) : tb (x ||| y) c = (tb x c || tb y c) := by
  have : (x ||| y).toBitVec = x.toBitVec ||| y.toBitVec := rfl
  unfold tb
  rw [this, BitVec.getLsbD_or]
theorem tb_xor (x y : Int32) (c : Nat) : tb (x ^^^ y) c = (tb x c ^^ tb y c) := by
  have : (x ^^^ y).toBitVec = x.toBitVec ^^^ y.toBitVec := rfl
  unfold tb
  rw [this, BitVec.getLsbD_xor]
theorem tb_m1_all : ∀ c : Fin 32, tb (-1 : Int32) c.val = true := by decide
theorem tb_m1 {c : Nat} (h : c < 32) : tb (-1 : Int32) c = true := tb_m1_all ⟨c, h⟩
theorem tb_not (x : Int32) {c : Nat} (h : c < 32) : tb (x ^^^ -1) c = !tb x c := by
  rw [tb_xor, tb_m1 h]
  cases tb x c <;> rfl
theorem tb_ofNat {n c : Nat} (h : c < 32) : tb (Int32.ofNat n) c = n.testBit c := by
  unfold tb
  show (BitVec.ofNat 32 n).getLsbD c = _
  rw [BitVec.getLsbD_ofNat, decide_eq_true h, Bool.true_and]
theorem tb_0 {c : Nat} (h : c < 32) : tb (Int32.ofNat 0) c = false := by rw [tb_ofNat h, Nat.zero_testBit]
theorem tb_sh_all : ∀ i c : Fin 32, tb ((Int32.ofNat 1) <<< ((Int32.ofNat (i.val)) &&& (Int32.ofNat 31))) c.val = decide (c.val = i.val) := by decide +kernel
theorem tb_sh {i c : Nat} (hi : i < 32) (hc : c < 32) : tb ((Int32.ofNat 1) <<< ((Int32.ofNat i) &&& (Int32.ofNat 31))) c = decide (c = i) := tb_sh_all ⟨i, hi⟩ ⟨c, hc⟩
theorem sh_amt : ∀ c : Fin 32, (((Int32.ofNat (c.val)) &&& (Int32.ofNat 31) : Int32).toBitVec.smod 32).toNat = c.val := by decide
theorem one_all : ∀ i : Fin 32, i.val ≠ 0 → (BitVec.ofNat 32 1).getLsbD i.val = false := by decide
theorem one_bit {b : BitVec 32} : (b &&& BitVec.ofNat 32 1 = BitVec.ofNat 32 1) ↔ b.getLsbD 0 = true := by
  constructor
  · intro h
    have := congrArg (fun x => x.getLsbD 0) h
    simpa using this
  · intro h
    apply BitVec.eq_of_getLsbD_eq
    intro i hi
    rw [BitVec.getLsbD_and]
    by_cases h0 : i = 0
    · subst h0; rw [h]; rfl
    · rw [one_all ⟨i, hi⟩ h0, Bool.and_false]
theorem tb_has {x : Int32} {c : Nat} (hc : c < 32) : ((x >>> ((Int32.ofNat c) &&& (Int32.ofNat 31))) &&& (Int32.ofNat 1) = (Int32.ofNat 1)) ↔ tb x c = true := by
  have e : (x >>> ((Int32.ofNat c) &&& (Int32.ofNat 31))).toBitVec = x.toBitVec.sshiftRight c := by
    show BitVec.sshiftRight' x.toBitVec (((Int32.ofNat c) &&& (Int32.ofNat 31) : Int32).toBitVec.smod 32) = _
    show x.toBitVec.sshiftRight (((Int32.ofNat c) &&& (Int32.ofNat 31) : Int32).toBitVec.smod 32).toNat = _
    rw [sh_amt ⟨c, hc⟩]
  rw [← Int32.toBitVec_inj]
  have e2 : ((x >>> ((Int32.ofNat c) &&& (Int32.ofNat 31))) &&& (Int32.ofNat 1)).toBitVec = (x >>> ((Int32.ofNat c) &&& (Int32.ofNat 31))).toBitVec &&& BitVec.ofNat 32 1 := rfl
  have e3 : ((Int32.ofNat 1) : Int32).toBitVec = BitVec.ofNat 32 1 := rfl
  rw [e2, e3, e, one_bit, BitVec.getLsbD_sshiftRight]
  unfold tb
  rw [decide_eq_false (by omega), if_pos (by omega), Nat.add_zero]
  simp
theorem bset_succ (p : Nat → Bool) (N : Nat) : bset p (N + 1) = if p N = true then bset p N ||| ((Int32.ofNat 1) <<< ((Int32.ofNat N) &&& (Int32.ofNat 31))) else bset p N := by
  unfold bset
  rw [itr_succ, Nat.zero_add]
theorem tb_bset (p : Nat → Bool) : ∀ {N : Nat}, N ≤ 32 → ∀ {c : Nat}, c < 32 → tb (bset p N) c = (decide (c < N) && p c) := by
  intro N
  induction N with
  | zero => intro _ c hc; rw [decide_eq_false (by omega)]; exact tb_0 hc
  | succ n ih =>
    intro hn c hc
    rw [bset_succ]
    by_cases hp : p n = true
    · rw [if_pos hp, tb_or, ih (by omega) hc, tb_sh (by omega) hc]
      by_cases h1 : c = n
      · subst h1
        simp [hp]
      · rw [decide_eq_false h1, Bool.or_false]
        congr 1
        exact decide_eq_decide.mpr (by omega)
    · rw [if_neg hp, ih (by omega) hc]
      by_cases h1 : c = n
      · subst h1
        simp [hp]
      · congr 1
        exact decide_eq_decide.mpr (by omega)
theorem bset_congr {p q : Nat → Bool} {N : Nat} (h : ∀ c, c < N → p c = q c) : bset p N = bset q N := by
  unfold bset
  apply itr_congr
  intro i s _ hi
  rw [h i (by omega)]
theorem bs_rel {h : am_H} {o : Nat} {W : Nat → Int32} {N G : Nat} (R : RelS h o W N G) {k : Nat} (hk : k < 9) (v : Int32) : bset (fun c => decide (h.2 (o + 7 + k) c = v)) N = bset (fun c => decide (W (43 + 9 * c + k) = v)) N := by
  have hN := R.1
  exact bset_congr (fun c hc => by rw [R.2.2.2.2.2.2.2.2.2.2.2.1 k c hk (by omega)])
theorem sum_congr {f g : Nat → Int32} {N : Nat} (h : ∀ c, c < N → f c = g c) : sum f N = sum g N := by
  unfold sum
  apply itr_congr
  intro i s _ hi
  rw [h i (by omega)]
/-- how many bits -/
theorem bc_all : (List.range 9).all (fun c => (List.range (2 ^ c)).all (fun m => decide (Int32.ofNat m ||| (Int32.ofNat 1 <<< (Int32.ofNat c &&& Int32.ofNat 31)) = Int32.ofNat (m + 2 ^ c)) && decide (pf_bc (Int32.ofNat (m + 2 ^ c)) = pf_bc (Int32.ofNat m) + Int32.ofNat 1))) = true := by decide +kernel
theorem bc_at {c m : Nat} (hc : c < 9) (hm : m < 2 ^ c) : (Int32.ofNat m) ||| ((Int32.ofNat 1) <<< ((Int32.ofNat c) &&& (Int32.ofNat 31))) = (Int32.ofNat (m + 2 ^ c)) ∧ pf_bc (Int32.ofNat (m + 2 ^ c)) = pf_bc (Int32.ofNat m) + (Int32.ofNat 1) := by
  have := List.all_eq_true.mp (List.all_eq_true.mp bc_all c (List.mem_range.mpr hc)) m (List.mem_range.mpr hm)
  rw [Bool.and_eq_true] at this
  exact ⟨of_decide_eq_true this.1, of_decide_eq_true this.2⟩
def bsN (p : Nat → Bool) : Nat → Nat
  | 0 => 0
  | n + 1 => bsN p n + (if p n = true then 2 ^ n else 0)
theorem bsN_lt (p : Nat → Bool) : ∀ n, bsN p n < 2 ^ n := by
  intro n
  induction n with
  | zero => exact Nat.one_pos
  | succ n ih =>
    show bsN p n + _ < 2 ^ (n + 1)
    rw [Nat.pow_succ]
    split <;> omega
theorem bset_N (p : Nat → Bool) : ∀ {N : Nat}, N ≤ 9 → bset p N = (Int32.ofNat (bsN p N)) ∧ pf_bc (bset p N) = (Int32.ofNat (cnt p N)) := by
  intro N
  induction N with
  | zero => intro _; exact ⟨rfl, (show pf_bc (Int32.ofNat 0) = (Int32.ofNat 0) by decide)⟩
  | succ n ih =>
    intro hn
    obtain ⟨a, b⟩ := ih (by omega)
    rw [bset_succ]
    show _ = (Int32.ofNat (bsN p n + _)) ∧ _ = (Int32.ofNat (cnt p n + _))
    by_cases hp : p n = true
    · obtain ⟨c, e⟩ := bc_at (c := n) (by omega) (bsN_lt p n)
      rw [if_pos hp, if_pos hp, if_pos hp, a, c, e]
      rw [a] at b
      rw [b, pn_add]
      exact ⟨rfl, rfl⟩
    · rw [if_neg hp, if_neg hp, if_neg hp]
      exact ⟨a, b⟩

/-! THE ABSTRACT MACHINE. A heap h is how many exceptions have been made (h.1) and the ints of a world of numbered cells (h.2 o i: place i of cell o); references never change, so they are in the tables of the world (am_tg), not in h. A method is a list of blocks of steps; a step is (pc, what, a, b, z). -/
abbrev am_H : Type := Nat × (Nat → Nat → Int32)
abbrev am_O : Type := Option Int32 ⊕ Nat
abbrev am_R : Type := am_O × am_H
abbrev am_I : Type := Nat × Nat × Nat × Nat × Int32
abbrev am_F : Type := Nat → List Value → am_H → Option am_R
abbrev am_J : Type := Nat → List Value → List Value → am_H → Option am_R
def am_up (h : am_H) (o i : Nat) (v : Int32) : am_H := (h.1, fun o' i' => if o' = o ∧ i' = i then v else h.2 o' i')
def am_cp (h : am_H) (src sp dst dp n : Nat) : am_H := (h.1, fun o' i' => if o' = dst ∧ dp ≤ i' ∧ i' < dp + n then h.2 src (sp + (i' - dp)) else h.2 o' i')
def am_th (h : am_H) : am_H := (h.1 + 1, h.2)
def am_in (i : Int32) (n : Nat) : Bool := !(decide (i < 0)) && decide (i.toNatClampNeg < n)
def am_li : List Value → Nat → Option Int32
  | [], _ => none
  | v :: _, 0 => match v with
    | .int x => some x
    | _ => none
  | _ :: l, n + 1 => am_li l n
def am_la : List Value → Nat → Option Nat
  | [], _ => none
  | v :: _, 0 => match v with
    | .ref x => some x
    | _ => none
  | _ :: l, n + 1 => am_la l n
/-- of the kind b; 35 stands for the two kinds of texts -/
def am_kk (x b : Nat) : Bool := if b = 35 then x == 5 || x == 3 else x == b
def am_b2 (f : Int32 → Int32 → Int32) (st : List Value) : Option (List Value) := match st with
  | .int y :: .int x :: r => some (.int (f x y) :: r)
  | _ => none
def am_ush (x y : Int32) : Int32 := (x.toUInt32 >>> (y.toUInt32 &&& Int32.toUInt32 31)).toInt32
def am_min (x y : Int32) : Int32 := if y < x then y else x
def am_max (x y : Int32) : Int32 := if x < y then y else x
def am_abs (x : Int32) : Int32 := if 0 ≤ x then x else 0 - x
def am_cs (st : List Value) : Nat := (st.map fun v => v.category).sum
def am_sk (o : Nat) : Bool := decide (1000 ≤ o) && decide (o < 1000 + am_sN)
def am_sx (o : Nat) : List Int32 := am_str (o - 1000)
def am_sl (h : am_H) : Nat := (h.2 392 0).toNatClampNeg
/-- the steps that go straight on, with what is done behind it -/
def am_st (op a b : Nat) (z : Int32) (ls st : List Value) (h : am_H) (K : List Value → List Value → am_H → Option am_R) : Option am_R :=
  match op with
  | 0 => K ls (.int z :: st) h
  | 1 => match am_li ls a with
    | some x => K ls (.int x :: st) h
    | none => none
  | 2 => match st with
    | .int x :: r => if a < ls.length then K (ls.set a (.int x)) r h else none
    | _ => none
  | 3 => match am_li ls a with
    | some x => K (ls.set a (.int (x + z))) st h
    | none => none
  | 4 => match st with | .int y :: .int x :: r => K ls (.int (x + y) :: r) h | _ => none
  | 5 => match st with | .int y :: .int x :: r => K ls (.int (x - y) :: r) h | _ => none
  | 6 => match st with | .int y :: .int x :: r => K ls (.int (x * y) :: r) h | _ => none
  | 7 => match st with | .int y :: .int x :: r => K ls (.int (x &&& y) :: r) h | _ => none
  | 8 => match st with | .int y :: .int x :: r => K ls (.int (x ||| y) :: r) h | _ => none
  | 9 => match st with | .int y :: .int x :: r => K ls (.int (x ^^^ y) :: r) h | _ => none
  | 10 => match st with | .int y :: .int x :: r => K ls (.int (x <<< (y &&& 31)) :: r) h | _ => none
  | 11 => match st with | .int y :: .int x :: r => K ls (.int (x >>> (y &&& 31)) :: r) h | _ => none
  | 12 => match st with | .int y :: .int x :: r => K ls (.int (am_ush x y) :: r) h | _ => none
  | 13 => match st with
    | .int y :: .int x :: r => if y = 0 then none else K ls (.int (x / y) :: r) h
    | _ => none
  | 14 => match st with
    | .int y :: .int x :: r => if y = 0 then none else K ls (.int (x - x / y * y) :: r) h
    | _ => none
  | 15 => match st with
    | .int x :: r => K ls (.int (-x) :: r) h
    | _ => none
  | 16 => match st with
    | .int x :: r => K ls (.int x.toInt8.toInt32 :: r) h
    | _ => none
  | 17 => match st with
    | .int x :: r => K ls (.long x.toInt64 :: r) h
    | _ => none
  | 18 => match st with
    | .ref o :: r => if am_kk (am_kd o) b = true then K ls (.int (h.2 o a) :: r) h else none
    | _ => none
  | 19 => match st with
    | .ref o :: r => if am_kk (am_kd o) b = true then K ls (.ref (am_tg o a) :: r) h else none
    | _ => none
  | 20 => match st with
    | .int v :: .ref o :: r => if am_kk (am_kd o) b = true then K ls r (am_up h o a v) else none
    | _ => none
  | 21 => match st with
    | .int v :: .ref o :: r => if am_kk (am_kd o) b = true then (if v = 0 ∨ v = 1 then K ls r (am_up h o a v) else none) else none
    | _ => none
  | 22 => match st with
    | .int i :: .ref o :: r => if am_kd o = 20 then (if am_in i (am_ln o) = true then K ls (.int (h.2 o i.toNatClampNeg) :: r) h else none) else none
    | _ => none
  | 23 => match st with
    | .int i :: .ref o :: r => if am_kd o = 21 then (if am_in i (am_ln o) = true then K ls (.int (h.2 o i.toNatClampNeg) :: r) h else none) else none
    | _ => none
  | 24 => match st with
    | .int i :: .ref o :: r => if am_kd o = 22 then (if am_in i (am_ln o) = true then K ls (.int (h.2 o i.toNatClampNeg) :: r) h else none) else none
    | _ => none
  | 25 => match st with
    | .int i :: .ref o :: r => if am_kd o = 24 then (if am_in i (am_ln o) = true then K ls (.ref (o + 1 + i.toNatClampNeg) :: r) h else none) else none
    | _ => none
  | 26 => match st with
    | .int i :: .ref o :: r => if am_kd o = 23 then (if am_in i (am_ln o) = true then K ls (.long (h.2 o i.toNatClampNeg).toInt64 :: r) h else none) else none
    | _ => none
  | 27 => match st with
    | .int v :: .int i :: .ref o :: r => if am_kd o = 20 then (if am_in i (am_ln o) = true then K ls r (am_up h o i.toNatClampNeg v) else none) else none
    | _ => none
  | 28 => match st with
    | .int v :: .int i :: .ref o :: r => if am_kd o = 21 then (if am_in i (am_ln o) = true then K ls r (am_up h o i.toNatClampNeg v.toInt8.toInt32) else none) else none
    | _ => none
  | 29 => match st with
    | .int v :: .int i :: .ref o :: r => if am_kd o = 22 then (if am_in i (am_ln o) = true then (if v = 0 ∨ v = 1 then K ls r (am_up h o i.toNatClampNeg v) else none) else none) else none
    | _ => none
  | 30 => match st with
    | .long v :: .int i :: .ref o :: r => if am_kd o = 23 then (if am_in i (am_ln o) = true then (if v.toInt32.toInt64 = v then K ls r (am_up h o i.toNatClampNeg v.toInt32) else none) else none) else none
    | _ => none
  | 31 => match st with
    | .ref o :: r => if am_kd o = 20 ∨ am_kd o = 24 then K ls (.int (Int32.ofNat (am_ln o)) :: r) h else none
    | _ => none
  | 32 => match st with
    | .int x :: r => K ls (.int x :: .int x :: r) h
    | .ref x :: r => K ls (.ref x :: .ref x :: r) h
    | _ => none
  | 33 => match st with
    | .int x :: .ref y :: r => K ls (.int x :: .ref y :: .int x :: .ref y :: r) h
    | _ => none
  | 34 => match st with
    | .int _ :: r => K ls r h
    | _ => none
  | 35 => match st with
    | .long y :: .long x :: r => K ls (.int (lg_cmp x y) :: r) h
    | _ => none
  | 36 => K ls (.long (if a = 0 then 0 else 1) :: st) h
  | 37 => match st with
    | .int n :: .int dp :: .ref d :: .int sp :: .ref s :: r =>
      if am_cs r ≤ 8 then (if am_kd s = 20 then (if am_kd d = 20 then (if ¬ sp < 0 ∧ ¬ dp < 0 ∧ ¬ n < 0 ∧ sp.toNatClampNeg + n.toNatClampNeg ≤ am_ln s ∧ dp.toNatClampNeg + n.toNatClampNeg ≤ am_ln d then K ls r (am_cp h s sp.toNatClampNeg d dp.toNatClampNeg n.toNatClampNeg) else none) else none) else none) else none
    | _ => none
  | 38 => K ls (.ref (1000 + a) :: st) h
  | 39 => match st with
    | .ref o :: r => if am_cs r ≤ 8 then (if am_sk o = true then K ls (.int (Int32.ofNat (am_sx o).length) :: r) h else none) else none
    | _ => none
  | 40 => match st with
    | .int i :: .ref o :: r => if am_cs r ≤ 8 then (if am_sk o = true then (if am_in i (am_sx o).length = true then K ls (.int ((am_sx o).getD i.toNatClampNeg 0) :: r) h else none) else none) else none
    | _ => none
  | 41 => match st with
    | .int y :: .int x :: r => if am_cs r ≤ 8 then K ls (.int (am_min x y) :: r) h else none
    | _ => none
  | 42 => match st with
    | .int y :: .int x :: r => if am_cs r ≤ 8 then K ls (.int (am_max x y) :: r) h else none
    | _ => none
  | 43 => match st with
    | .int x :: r => if am_cs r ≤ 8 then K ls (.int (am_abs x) :: r) h else none
    | _ => none
  | 44 => match st with
    | .int i :: .ref o :: r => if o = 391 then (if am_in i (am_sl h) = true then K ls (.int (h.2 391 i.toNatClampNeg) :: r) h else none) else none
    | _ => none
  | 45 => match st with
    | .ref o :: r => if o = 391 then K ls (.int (h.2 392 0) :: r) h else none
    | _ => none
  | 46 => match am_la ls a with
    | some x => K ls (.ref x :: st) h
    | none => none
  | 47 => match st with
    | .int i :: .ref o :: r => if am_kd o = 25 then (if am_in i (am_ln o) = true then K ls (.ref (o + 1 + 22 * i.toNatClampNeg) :: r) h else none) else none
    | _ => none
  | _ => none
set_option maxHeartbeats 4000000 in
theorem am_st_mono {op a b : Nat} {z : Int32} {ls st : List Value} {h : am_H} {K K' : List Value → List Value → am_H → Option am_R} {r : am_R} (hK : ∀ l s h, K l s h = some r → K' l s h = some r) (e : am_st op a b z ls st h K = some r) : am_st op a b z ls st h K' = some r := by
  unfold am_st at e ⊢
  split at e
  all_goals first
    | exact (Option.some_ne_none _ e.symm).elim
    | exact hK _ _ _ e
    | (repeat' split at e
       all_goals first
         | exact (Option.some_ne_none _ e.symm).elim
         | exact hK _ _ _ e
         | (simp only [*, if_true, if_false, and_self, or_true, true_or, reduceIte, not_false_eq_true] <;> exact hK _ _ _ e))
set_option maxHeartbeats 4000000 in
theorem am_st_cont {op a b : Nat} {z : Int32} {ls st : List Value} {h : am_H} {K : List Value → List Value → am_H → Option am_R} {F : Nat → List Value → List Value → am_H → Option am_R} {r : am_R} (hK : ∀ l s h, K l s h = some r → ∃ n, F n l s h = some r) (e : am_st op a b z ls st h K = some r) : ∃ n, am_st op a b z ls st h (F n) = some r := by
  unfold am_st at e ⊢
  split at e
  all_goals first
    | exact (Option.some_ne_none _ e.symm).elim
    | exact hK _ _ _ e
    | (repeat' split at e
       all_goals first
         | exact (Option.some_ne_none _ e.symm).elim
         | exact hK _ _ _ e
         | (simp only [*, if_true, if_false, and_self, or_true, true_or, reduceIte, not_false_eq_true] <;> exact hK _ _ _ e))
def am_sf : List (Int32 × Nat) → Nat → Int32 → Nat
  | [], d, _ => d
  | (v, t) :: r, d, x => if x = v then t else am_sf r d x
def am_cf : List (Nat × Int32) → Nat → Option Int32
  | [], _ => none
  | (e, v) :: r, x => if x = e then some v else am_cf r x
/-- a call that answers an int; what it throws goes out -/
def am_kI (q : Option am_R) (f : Int32 → am_H → Option am_R) : Option am_R := match q with
  | some (.inl (some x), h) => f x h
  | some (.inr e, h) => some (.inr e, h)
  | _ => none
def am_kV (q : Option am_R) (f : am_H → Option am_R) : Option am_R := match q with
  | some (.inl none, h) => f h
  | some (.inr e, h) => some (.inr e, h)
  | _ => none
/-- a call that never throws -/
def am_nI (q : Option am_R) (f : Int32 → am_H → Option am_R) : Option am_R := match q with
  | some (.inl (some x), h) => f x h
  | _ => none
def am_nV (q : Option am_R) (f : am_H → Option am_R) : Option am_R := match q with
  | some (.inl none, h) => f h
  | _ => none
/-- a call whose throws are caught: the method answers a number by the thrown one's class -/
def am_cI (t : List (Nat × Int32)) (q : Option am_R) (f : Int32 → am_H → Option am_R) : Option am_R := match q with
  | some (.inl (some x), h) => f x h
  | some (.inr e, h) => match am_cf t e with
    | some v => some (.inl (some v), h)
    | none => none
  | _ => none
def am_ex (Φ : am_F) (G : am_J) : List am_I → List Value → List Value → am_H → Option am_R
  | [], _, _, _ => none
  | (_, op, a, b, z) :: r, ls, st, h =>
    if op < 50 then am_st op a b z ls st h (fun ls1 st1 h1 => am_ex Φ G r ls1 st1 h1)
    else match op with
    | 50 => match st with | .int x :: s => if x = 0 then G a ls s h else G b ls s h | _ => none
    | 51 => match st with | .int x :: s => if x = 0 then G b ls s h else G a ls s h | _ => none
    | 52 => match st with | .int x :: s => if x < 0 then G a ls s h else G b ls s h | _ => none
    | 53 => match st with | .int x :: s => if 0 ≤ x then G a ls s h else G b ls s h | _ => none
    | 54 => match st with | .int x :: s => if 0 < x then G a ls s h else G b ls s h | _ => none
    | 55 => match st with | .int x :: s => if x ≤ 0 then G a ls s h else G b ls s h | _ => none
    | 56 => match st with | .int y :: .int x :: s => if x = y then G a ls s h else G b ls s h | _ => none
    | 57 => match st with | .int y :: .int x :: s => if x = y then G b ls s h else G a ls s h | _ => none
    | 58 => match st with | .int y :: .int x :: s => if x < y then G a ls s h else G b ls s h | _ => none
    | 59 => match st with | .int y :: .int x :: s => if y ≤ x then G a ls s h else G b ls s h | _ => none
    | 60 => match st with | .int y :: .int x :: s => if y < x then G a ls s h else G b ls s h | _ => none
    | 61 => match st with | .int y :: .int x :: s => if x ≤ y then G a ls s h else G b ls s h | _ => none
    | 64 => if b ≤ st.length ∧ am_cs (st.drop b) ≤ 8 then am_kI (Φ a (st.take b).reverse h) (fun v h1 => am_ex Φ G r ls (.int v :: st.drop b) h1) else none
    | 65 => if b ≤ st.length ∧ am_cs (st.drop b) ≤ 8 then am_kV (Φ a (st.take b).reverse h) (fun h1 => am_ex Φ G r ls (st.drop b) h1) else none
    | 66 => if am_cs (st.drop (b + 1)) ≤ 8 then (match st.drop b with
        | .ref o :: _ => if am_kd o = z.toNatClampNeg then am_kI (Φ a (st.take (b + 1)).reverse h) (fun v h1 => am_ex Φ G r ls (.int v :: st.drop (b + 1)) h1) else none
        | _ => none) else none
    | 67 => if am_cs (st.drop (b + 1)) ≤ 8 then (match st.drop b with
        | .ref o :: _ => if am_kd o = z.toNatClampNeg then am_kV (Φ a (st.take (b + 1)).reverse h) (fun h1 => am_ex Φ G r ls (st.drop (b + 1)) h1) else none
        | _ => none) else none
    | 68 => if am_cs (st.drop (b + 1)) ≤ 8 then (match st.drop b with
        | .ref o :: _ => if am_kk (am_kd o) z.toNatClampNeg = true then am_nI (Φ a (st.take (b + 1)).reverse h) (fun v h1 => am_ex Φ G r ls (.int v :: st.drop (b + 1)) h1) else none
        | _ => none) else none
    | 69 => if am_cs (st.drop (b + 1)) ≤ 8 then (match st.drop b with
        | .ref o :: _ => if am_kk (am_kd o) z.toNatClampNeg = true then am_nV (Φ a (st.take (b + 1)).reverse h) (fun h1 => am_ex Φ G r ls (st.drop (b + 1)) h1) else none
        | _ => none) else none
    | 70 => if am_cs (st.drop 1) ≤ 8 then (match st with
        | .ref o :: s => if am_kd o = 5 then am_nI (Φ a [.ref o] h) (fun v h1 => am_ex Φ G r ls (.int v :: s) h1) else if am_kd o = 3 then am_nI (Φ b [.ref o] h) (fun v h1 => am_ex Φ G r ls (.int v :: s) h1) else none
        | _ => none) else none
    | 71 => G a ls st h
    | 72 => G a ls st h
    | 73 => match st with | .int x :: s => G (am_sf (am_swt a) b x) ls s h | _ => none
    | 74 => match st with | [.int x] => some (.inl (some x), h) | _ => none
    | 75 => match st with | [.int x] => if x = 0 ∨ x = 1 then some (.inl (some x), h) else none | _ => none
    | 76 => match st with | [] => some (.inl none, h) | _ => none
    | 77 => if am_cs st ≤ 8 then some (.inr a, am_th h) else none
    | 78 => if am_cs (st.drop (b + 1)) ≤ 8 then (match st.drop b with
        | .ref o :: _ => if am_kd o = 9 then am_cI (am_ctt z.toNatClampNeg) (Φ a (st.take (b + 1)).reverse h) (fun v h1 => am_ex Φ G r ls (.int v :: st.drop (b + 1)) h1) else none
        | _ => none) else none
    | 79 => if b ≤ st.length ∧ am_cs (st.drop b) ≤ 8 then am_nI (Φ a (st.take b).reverse h) (fun v h1 => am_ex Φ G r ls (.int v :: st.drop b) h1) else none
    | _ => none
theorem am_kI_mono {q : Option am_R} {f f' : Int32 → am_H → Option am_R} {r : am_R} (hf : ∀ v h, f v h = some r → f' v h = some r) (h : am_kI q f = some r) : am_kI q f' = some r := by
  unfold am_kI at h ⊢
  split at h
  · exact hf _ _ h
  · exact h
  · exact h
theorem am_kV_mono {q : Option am_R} {f f' : am_H → Option am_R} {r : am_R} (hf : ∀ h, f h = some r → f' h = some r) (h : am_kV q f = some r) : am_kV q f' = some r := by
  unfold am_kV at h ⊢
  split at h
  · exact hf _ h
  · exact h
  · exact h
theorem am_nI_mono {q : Option am_R} {f f' : Int32 → am_H → Option am_R} {r : am_R} (hf : ∀ v h, f v h = some r → f' v h = some r) (h : am_nI q f = some r) : am_nI q f' = some r := by
  unfold am_nI at h ⊢
  split at h
  · exact hf _ _ h
  · exact h
theorem am_nV_mono {q : Option am_R} {f f' : am_H → Option am_R} {r : am_R} (hf : ∀ h, f h = some r → f' h = some r) (h : am_nV q f = some r) : am_nV q f' = some r := by
  unfold am_nV at h ⊢
  split at h
  · exact hf _ h
  · exact h
theorem am_cI_mono {t : List (Nat × Int32)} {q : Option am_R} {f f' : Int32 → am_H → Option am_R} {r : am_R} (hf : ∀ v h, f v h = some r → f' v h = some r) (h : am_cI t q f = some r) : am_cI t q f' = some r := by
  unfold am_cI at h ⊢
  split at h
  · exact hf _ _ h
  · exact h
  · exact h
theorem am_kI_cont {q : Option am_R} {f : Int32 → am_H → Option am_R} {F : Nat → Int32 → am_H → Option am_R} {r : am_R} (hf : ∀ v h, f v h = some r → ∃ n, F n v h = some r) (h : am_kI q f = some r) : ∃ n, am_kI q (F n) = some r := by
  unfold am_kI at h ⊢
  split at h
  · exact hf _ _ h
  · exact ⟨0, h⟩
  · exact ⟨0, h⟩
theorem am_kV_cont {q : Option am_R} {f : am_H → Option am_R} {F : Nat → am_H → Option am_R} {r : am_R} (hf : ∀ h, f h = some r → ∃ n, F n h = some r) (h : am_kV q f = some r) : ∃ n, am_kV q (F n) = some r := by
  unfold am_kV at h ⊢
  split at h
  · exact hf _ h
  · exact ⟨0, h⟩
  · exact ⟨0, h⟩
theorem am_nI_cont {q : Option am_R} {f : Int32 → am_H → Option am_R} {F : Nat → Int32 → am_H → Option am_R} {r : am_R} (hf : ∀ v h, f v h = some r → ∃ n, F n v h = some r) (h : am_nI q f = some r) : ∃ n, am_nI q (F n) = some r := by
  unfold am_nI at h ⊢
  split at h
  · exact hf _ _ h
  · exact ⟨0, h⟩
theorem am_nV_cont {q : Option am_R} {f : am_H → Option am_R} {F : Nat → am_H → Option am_R} {r : am_R} (hf : ∀ h, f h = some r → ∃ n, F n h = some r) (h : am_nV q f = some r) : ∃ n, am_nV q (F n) = some r := by
  unfold am_nV at h ⊢
  split at h
  · exact hf _ h
  · exact ⟨0, h⟩
theorem am_cI_cont {t : List (Nat × Int32)} {q : Option am_R} {f : Int32 → am_H → Option am_R} {F : Nat → Int32 → am_H → Option am_R} {r : am_R} (hf : ∀ v h, f v h = some r → ∃ n, F n v h = some r) (h : am_cI t q f = some r) : ∃ n, am_cI t q (F n) = some r := by
  unfold am_cI at h ⊢
  split at h
  · exact hf _ _ h
  · exact ⟨0, h⟩
  · exact ⟨0, h⟩
set_option maxHeartbeats 4000000 in
theorem am_ex_mono {Φ : am_F} {G G' : am_J} {r : am_R} (hG : ∀ b ls st h, G b ls st h = some r → G' b ls st h = some r) : ∀ (ops : List am_I) (ls st : List Value) (h : am_H), am_ex Φ G ops ls st h = some r → am_ex Φ G' ops ls st h = some r := by
  intro ops
  induction ops with
  | nil => intro ls st h e; simp [am_ex] at e
  | cons i ops ih =>
    obtain ⟨pc, op, a, b, z⟩ := i
    intro ls st h e
    unfold am_ex at e ⊢
    by_cases ho : op < 50
    · rw [if_pos ho] at e ⊢
      exact am_st_mono (fun l s h q => ih _ _ _ q) e
    · rw [if_neg ho] at e ⊢
      clear ho
      split at e
      all_goals first
        | exact e
        | exact hG _ _ _ _ e
        | (repeat' split at e
           all_goals first
             | exact (Option.some_ne_none _ e.symm).elim
             | exact e
             | exact hG _ _ _ _ e
             | (simp only [*, if_true, if_false, and_self, or_true, true_or, reduceIte] <;> first | exact hG _ _ _ _ e | exact am_kI_mono (fun v h1 q => ih _ _ _ q) e | exact am_kV_mono (fun h1 q => ih _ _ _ q) e | exact am_nI_mono (fun v h1 q => ih _ _ _ q) e | exact am_nV_mono (fun h1 q => ih _ _ _ q) e | exact am_cI_mono (fun v h1 q => ih _ _ _ q) e))
set_option maxHeartbeats 4000000 in
theorem am_ex_cont {Φ : am_F} {G : am_J} {Gn : Nat → am_J} {r : am_R} (hG : ∀ b ls st h, G b ls st h = some r → ∃ n, Gn n b ls st h = some r) : ∀ (ops : List am_I) (ls st : List Value) (h : am_H), am_ex Φ G ops ls st h = some r → ∃ n, am_ex Φ (Gn n) ops ls st h = some r := by
  intro ops
  induction ops with
  | nil => intro ls st h e; simp [am_ex] at e
  | cons i ops ih =>
    obtain ⟨pc, op, a, b, z⟩ := i
    intro ls st h e
    unfold am_ex at e ⊢
    by_cases ho : op < 50
    · simp only [if_pos ho] at e ⊢
      exact am_st_cont (fun l s h q => ih _ _ _ q) e
    · simp only [if_neg ho] at e ⊢
      clear ho
      split at e
      all_goals first
        | exact hG _ _ _ _ e
        | exact ⟨0, e⟩
        | (repeat' split at e
           all_goals first
             | exact (Option.some_ne_none _ e.symm).elim
             | exact hG _ _ _ _ e
             | exact ⟨0, e⟩
             | (simp only [*, if_true, if_false, and_self, or_true, true_or, reduceIte] <;> first | exact hG _ _ _ _ e | exact am_kI_cont (fun v h1 q => ih _ _ _ q) e | exact am_kV_cont (fun h1 q => ih _ _ _ q) e | exact am_nI_cont (fun v h1 q => ih _ _ _ q) e | exact am_nV_cont (fun h1 q => ih _ _ _ q) e | exact am_cI_cont (fun v h1 q => ih _ _ _ q) e))
noncomputable def am_gN (Φ : am_F) (k : Nat) : Nat → am_J
  | 0 => fun _ _ _ _ => none
  | n + 1 => fun b ls st h => am_ex Φ (am_gN Φ k n) ((am_bl k).getD b []) ls st h
theorem am_gN_up {Φ : am_F} {k : Nat} {r : am_R} : ∀ (n b : Nat) (ls st : List Value) (h : am_H), am_gN Φ k n b ls st h = some r → am_gN Φ k (n + 1) b ls st h = some r := by
  intro n
  induction n with
  | zero => intro b ls st h e; simp [am_gN] at e
  | succ n ih => intro b ls st h e; exact am_ex_mono ih _ _ _ _ e
theorem am_gN_le {Φ : am_F} {k : Nat} {r : am_R} {b : Nat} {ls st : List Value} {h : am_H} {n m : Nat} (hnm : n ≤ m) (e : am_gN Φ k n b ls st h = some r) : am_gN Φ k m b ls st h = some r := by
  induction hnm with
  | refl => exact e
  | step _ ih => exact am_gN_up _ _ _ _ _ ih
/-- where a run from a block comes to, in any number of blocks -/
noncomputable def am_go (Φ : am_F) (k : Nat) : am_J := fun b ls st h => Classical.epsilon (fun o : Option am_R => (∃ n, (am_gN Φ k n b ls st h).isSome = true ∧ am_gN Φ k n b ls st h = o) ∨ ((∀ n, am_gN Φ k n b ls st h = none) ∧ o = none))
theorem am_go_spec (Φ : am_F) (k b : Nat) (ls st : List Value) (h : am_H) : (∃ n, (am_gN Φ k n b ls st h).isSome = true ∧ am_gN Φ k n b ls st h = am_go Φ k b ls st h) ∨ ((∀ n, am_gN Φ k n b ls st h = none) ∧ am_go Φ k b ls st h = none) := by
  refine Classical.epsilon_spec (p := fun o : Option am_R => (∃ n, (am_gN Φ k n b ls st h).isSome = true ∧ am_gN Φ k n b ls st h = o) ∨ ((∀ n, am_gN Φ k n b ls st h = none) ∧ o = none)) ?_
  by_cases hn : ∃ n, (am_gN Φ k n b ls st h).isSome = true
  · obtain ⟨n, hn⟩ := hn
    exact ⟨_, Or.inl ⟨n, hn, rfl⟩⟩
  · refine ⟨none, Or.inr ⟨fun n => ?_, rfl⟩⟩
    cases e : am_gN Φ k n b ls st h with
    | none => rfl
    | some r => exact absurd ⟨n, by rw [e]; rfl⟩ hn
theorem am_go_some {Φ : am_F} {k b : Nat} {ls st : List Value} {h : am_H} {r : am_R} : am_go Φ k b ls st h = some r ↔ ∃ n, am_gN Φ k n b ls st h = some r := by
  rcases am_go_spec Φ k b ls st h with ⟨n, h1, h2⟩ | ⟨h1, h2⟩
  · constructor
    · intro e
      exact ⟨n, h2.trans e⟩
    · rintro ⟨m, e⟩
      rw [← h2]
      obtain ⟨r2, e2⟩ := Option.isSome_iff_exists.mp h1
      have a1 := am_gN_le (Nat.le_max_left n m) e2
      have a2 := am_gN_le (Nat.le_max_right n m) e
      rw [e2, ← a1, a2]
  · constructor
    · intro e
      rw [h2] at e
      cases e
    · rintro ⟨m, e⟩
      rw [h1 m] at e
      cases e
theorem am_go_eq (Φ : am_F) (k b : Nat) (ls st : List Value) (h : am_H) : am_go Φ k b ls st h = am_ex Φ (am_go Φ k) ((am_bl k).getD b []) ls st h := by
  apply Option.ext
  intro r
  constructor
  · intro e
    obtain ⟨n, e⟩ := am_go_some.mp e
    cases n with
    | zero => simp [am_gN] at e
    | succ n => exact am_ex_mono (fun b ls st h q => am_go_some.mpr ⟨n, q⟩) _ _ _ _ e
  · intro e
    obtain ⟨n, e⟩ := am_ex_cont (Gn := am_gN Φ k) (fun b ls st h q => am_go_some.mp q) _ _ _ _ e
    exact am_go_some.mpr ⟨n + 1, e⟩
theorem am_go_q {p : List (List am_I)} {k : Nat} (hp : am_bl k = p) (Φ : am_F) (b : Nat) (ls st : List Value) (h : am_H) : am_go Φ k b ls st h = am_ex Φ (am_go Φ k) (p.getD b []) ls st h := by
  subst hp
  exact am_go_eq Φ k b ls st h
def am_en (k : Nat) (av : List Value) : List Value := av ++ List.replicate (am_mL k - av.length) .null
def am_ir (v : Value) : Bool := match v with
  | .int _ => true
  | .ref _ => true
  | _ => false
/-- a method, with calls at most so deep -/
noncomputable def am_cl : Nat → am_F
  | 0 => fun _ _ _ => none
  | d + 1 => fun k av h => if av.all am_ir = true ∧ av.length ≤ am_mL k then am_go (am_cl d) k 0 (am_en k av) [] h else none

/-! THE LAW'S CONDITIONS: a stack, evaluated; types of its places -/
def jn (k : Nat) (a b : Int32) : Int32 := if k = 12 then a + b else if k = 13 then bi (a < b) else if k = 14 then bi (b < a) else if k = 16 then bi (a + b = (Int32.ofNat 2)) else bi ((Int32.ofNat 0) < a + b)
def ev1 (F : Nat → Int32) (k : Nat) (n : Int32) (st : (Nat → Int32) × Nat) : (Nat → Int32) × Nat :=
  if k ≤ 11 then (pu st.1 st.2 (if k = 11 then n else F k), st.2 + 1)
  else if k = 15 then (pu st.1 (st.2 - 1) ((Int32.ofNat 1) - st.1 (st.2 - 1)), st.2)
  else (pu st.1 (st.2 - 2) (jn k (st.1 (st.2 - 2)) (st.1 (st.2 - 1))), st.2 - 1)
def evR (F : Nat → Int32) (K : Nat → Nat) (n : Nat → Int32) (k i : Nat) (st : (Nat → Int32) × Nat) : (Nat → Int32) × Nat := itr (fun j st => ev1 F (K j) (n j) st) k i st
/-- what a code does to the types of the stack (true: 0 or 1) -/
def tyk (k : Nat) (ts : List Bool) : Option (List Bool) :=
  if 24 ≤ ts.length then none
  else if k ≤ 7 ∨ k = 11 then some (false :: ts)
  else if k ≤ 10 then some (true :: ts)
  else if k = 15 then (match ts with
    | true :: r => some (true :: r)
    | _ => none)
  else if k = 12 then (match ts with
    | false :: false :: r => some (false :: r)
    | _ => none)
  else if k = 13 ∨ k = 14 then (match ts with
    | false :: false :: r => some (true :: r)
    | _ => none)
  else if k = 16 ∨ k = 17 then (match ts with
    | true :: true :: r => some (true :: r)
    | _ => none)
  else none
def tyR (K : Nat → Nat) : Nat → Nat → List Bool → Option (List Bool)
  | 0, _, ts => some ts
  | n + 1, j, ts => match tyk (K j) ts with
    | some ts' => tyR K n (j + 1) ts'
    | none => none
def tyI : List Bool → (Nat → Int32) → Prop
  | [], _ => True
  | b :: r, s => (b = true → s r.length = (Int32.ofNat 0) ∨ s r.length = (Int32.ofNat 1)) ∧ tyI r s
theorem tyI_congr : ∀ (r : List Bool) (s s' : Nat → Int32), (∀ i, i < r.length → s' i = s i) → tyI r s → tyI r s' := by
  intro r
  induction r with
  | nil => intro _ _ _ _; trivial
  | cons b r ih =>
    intro s s' h hI
    refine ⟨fun hb => ?_, ih s s' (fun i hi => h i (by simp; omega)) hI.2⟩
    rw [h r.length (by simp)]
    exact hI.1 hb
theorem bi_01 {p : Prop} [Decidable p] : bi p = (Int32.ofNat 0) ∨ bi p = (Int32.ofNat 1) := by
  by_cases hp : p
  · right; exact bi_t hp
  · left; exact bi_f hp
/-- a step of a well-typed stack -/
theorem tyk_cases {k : Nat} {ts ts' : List Bool} (h : tyk k ts = some ts') : ts.length < 24 ∧ ((k ≤ 11 ∧ ts' = (decide (8 ≤ k ∧ k ≤ 10)) :: ts) ∨ (k = 15 ∧ ∃ r, ts = true :: r ∧ ts' = true :: r) ∨ (k = 12 ∧ ∃ r, ts = false :: false :: r ∧ ts' = false :: r) ∨ ((k = 13 ∨ k = 14) ∧ ∃ r, ts = false :: false :: r ∧ ts' = true :: r) ∨ ((k = 16 ∨ k = 17) ∧ ∃ r, ts = true :: true :: r ∧ ts' = true :: r)) := by
  unfold tyk at h
  split at h
  · cases h
  · rename_i hl
    refine ⟨by omega, ?_⟩
    split at h
    · cases h
      left
      refine ⟨by omega, ?_⟩
      rw [decide_eq_false (by omega)]
    · split at h
      · cases h
        left
        refine ⟨by omega, ?_⟩
        rw [decide_eq_true (by omega)]
      · split at h
        · right; left
          split at h
          · cases h; exact ⟨by assumption, _, rfl, rfl⟩
          · cases h
        · split at h
          · right; right; left
            split at h
            · cases h; exact ⟨by assumption, _, rfl, rfl⟩
            · cases h
          · split at h
            · right; right; right; left
              split at h
              · cases h; exact ⟨by assumption, _, rfl, rfl⟩
              · cases h
            · split at h
              · right; right; right; right
                split at h
                · cases h; exact ⟨by assumption, _, rfl, rfl⟩
                · cases h
              · cases h
/-- what is known of a child -/
def fct (W : Nat → Int32) (c : Nat) (k : Nat) : Int32 :=
  if k = 0 then (Int32.ofNat c) else if k = 1 then W (43 + 9 * c + 0) else if k = 2 then W (43 + 9 * c + 3) else if k = 3 then W (7 + 4 * (W (43 + 9 * c + 1)).toNatClampNeg + 1) else if k = 4 then W (7 + 4 * (W (43 + 9 * c + 1)).toNatClampNeg + 2) else if k = 5 then W (7 + 4 * (W (43 + 9 * c + 1)).toNatClampNeg + 3) else if k = 6 then pf_bc (W (43 + 9 * c + 2)) else if k = 7 then W 3 else if k = 8 then bi (¬ W (43 + 9 * c + 8) = -1) else if k = 9 then bi (W (43 + 9 * c + 4) = W (43 + 9 * c + 1)) else bi (W (43 + 9 * c + 1) = (Int32.ofNat 8))
theorem fct_01 {W : Nat → Int32} {c k : Nat} (hk : 8 ≤ k ∧ k ≤ 10) : fct W c k = (Int32.ofNat 0) ∨ fct W c k = (Int32.ofNat 1) := by
  rcases (show k = 8 ∨ k = 9 ∨ k = 10 by omega) with rfl | rfl | rfl
  · exact bi_01
  · exact bi_01
  · exact bi_01
theorem jn_01 {k : Nat} {a b : Int32} (hk : k ≠ 12) : jn k a b = (Int32.ofNat 0) ∨ jn k a b = (Int32.ofNat 1) := by
  unfold jn
  rw [if_neg hk]
  split
  · exact bi_01
  · split
    · exact bi_01
    · split
      · exact bi_01
      · exact bi_01
/-- the types stay true -/
theorem ev1_ty {W : Nat → Int32} {c k : Nat} {n : Int32} {s : Nat → Int32} {ts ts' : List Bool} (h : tyk k ts = some ts') (hI : tyI ts s) : (ev1 (fct W c) k n (s, ts.length)).2 = ts'.length ∧ tyI ts' (ev1 (fct W c) k n (s, ts.length)).1 := by
  obtain ⟨hl, ⟨hk, rfl⟩ | ⟨rfl, r, rfl, rfl⟩ | ⟨rfl, r, rfl, rfl⟩ | ⟨hk, r, rfl, rfl⟩ | ⟨hk, r, rfl, rfl⟩⟩ := tyk_cases h
  · unfold ev1
    rw [if_pos hk]
    refine ⟨rfl, fun hb => ?_, tyI_congr _ _ _ (fun i hi => pu_ne (by omega)) hI⟩
    show pu s ts.length _ ts.length = _ ∨ pu s ts.length _ ts.length = _
    rw [pu_eq rfl]
    have := of_decide_eq_true hb
    rw [if_neg (by omega)]
    exact fct_01 this
  · refine ⟨rfl, fun _ => ?_, tyI_congr _ _ _ (fun i hi => ?_) hI.2⟩
    · show pu s (r.length + 1 - 1) ((Int32.ofNat 1) - s (r.length + 1 - 1)) r.length = (Int32.ofNat 0) ∨ pu s (r.length + 1 - 1) ((Int32.ofNat 1) - s (r.length + 1 - 1)) r.length = (Int32.ofNat 1)
      rw [Nat.add_sub_cancel, pu_eq rfl]
      rcases hI.1 rfl with q | q
      · right; rw [q]; decide
      · left; rw [q]; decide
    · show pu s (r.length + 1 - 1) _ i = _
      exact pu_ne (by omega)
  · refine ⟨rfl, fun q => (by cases q), tyI_congr _ _ _ (fun i hi => ?_) hI.2.2⟩
    show pu s (r.length + 1 + 1 - 2) _ i = _
    exact pu_ne (by omega)
  · have e : ev1 (fct W c) k n (s, (false :: false :: r).length) = (pu s (r.length + 1 + 1 - 2) (jn k (s (r.length + 1 + 1 - 2)) (s (r.length + 1 + 1 - 1))), r.length + 1 + 1 - 1) := by
      unfold ev1
      rw [if_neg (by omega), if_neg (by omega)]
      rfl
    rw [e]
    refine ⟨rfl, fun _ => ?_, tyI_congr _ _ _ (fun i hi => ?_) hI.2.2⟩
    · show pu s (r.length + 1 + 1 - 2) _ r.length = _ ∨ pu s (r.length + 1 + 1 - 2) _ r.length = _
      rw [pu_eq (by omega)]
      exact jn_01 (by omega)
    · exact pu_ne (by omega)
  · have e : ev1 (fct W c) k n (s, (true :: true :: r).length) = (pu s (r.length + 1 + 1 - 2) (jn k (s (r.length + 1 + 1 - 2)) (s (r.length + 1 + 1 - 1))), r.length + 1 + 1 - 1) := by
      unfold ev1
      rw [if_neg (by omega), if_neg (by omega)]
      rfl
    rw [e]
    refine ⟨rfl, fun _ => ?_, tyI_congr _ _ _ (fun i hi => ?_) hI.2.2⟩
    · show pu s (r.length + 1 + 1 - 2) _ r.length = _ ∨ pu s (r.length + 1 + 1 - 2) _ r.length = _
      rw [pu_eq (by omega)]
      exact jn_01 (by omega)
    · exact pu_ne (by omega)
/-- one cell put in place of another -/
def cw (h : am_H) (o : Nat) (f : Nat → Int32) : am_H := (h.1, fun o' => if o' = o then f else h.2 o')
theorem cw_eq {h : am_H} {o : Nat} {f : Nat → Int32} : (cw h o f).2 o = f := if_pos rfl
theorem cw_ne {h : am_H} {o o' : Nat} {f : Nat → Int32} (hn : o' ≠ o) : (cw h o f).2 o' = h.2 o' := if_neg hn
theorem cw_up {h : am_H} {o i : Nat} {f : Nat → Int32} {v : Int32} : am_up (cw h o f) o i v = cw h o (pu f i v) := by
  unfold am_up cw pu
  simp only
  congr 1
  funext o' i'
  by_cases ho : o' = o
  · subst ho
    simp
  · simp [ho]
theorem cw_self {h : am_H} {o : Nat} : cw h o (h.2 o) = h := by
  unfold cw
  show (h.1, _) = (h.1, h.2)
  congr 1
  funext o'
  by_cases ho : o' = o
  · rw [if_pos ho, ho]
  · rw [if_neg ho]

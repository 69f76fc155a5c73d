def am_PL : List (Nat × Nat) := [(0, 0), (0, 1), (0, 2), (0, 4), (0, 6), (0, 7), (0, 8), (0, 9), (0, 35), (1, 0), (1, 1), (1, 2), (1, 4), (1, 7), (1, 9), (1, 10), (1, 35), (2, 2), (2, 4), (2, 7), (2, 9), (2, 10), (3, 2), (3, 4), (3, 9), (3, 10), (4, 2), (4, 3), (4, 5), (4, 9), (4, 10), (5, 2), (5, 9), (5, 10), (6, 9), (7, 9), (8, 9), (8, 10), (9, 9), (10, 9), (11, 9), (12, 9), (15, 10), (17, 10), (18, 10), (19, 10), (20, 10), (22, 10), (23, 10), (24, 10), (25, 10)]
noncomputable def am_PLb : Bool := am_blL.all (fun p => p.all (fun q => q.all (fun i => if i.2.1 = 19 then am_PL.contains (i.2.2.1, i.2.2.2.1) else true)))
theorem am_PLb_ok : am_PLb = true := by decide +kernel
theorem am_PL_in (k b : Nat) : ∀ i ∈ (am_bl k).getD b [], i.2.1 = 19 → (i.2.2.1, i.2.2.2.1) ∈ am_PL := by
  have h0 : ∀ p ∈ am_blL, ∀ q ∈ p, ∀ i ∈ q, i.2.1 = 19 → (i.2.2.1, i.2.2.2.1) ∈ am_PL := by
    have h := am_PLb_ok
    unfold am_PLb at h
    intro p hp q hq i hi ho
    have h1 := List.all_eq_true.mp (List.all_eq_true.mp (List.all_eq_true.mp h p hp) q hq) i hi
    rw [if_pos ho] at h1
    exact List.contains_iff_mem.mp h1
  unfold am_bl
  rw [List.getD_eq_getElem?_getD, List.getD_eq_getElem?_getD]
  cases hk : am_blL[k]? with
  | none => intro i hi; simp at hi
  | some p =>
    show ∀ i ∈ (p[b]?).getD [], _
    cases hb : p[b]? with
    | none => intro i hi; simp at hi
    | some q => exact h0 p (List.mem_of_getElem? hk) q (List.mem_of_getElem? hb)
/-- the class's side, the reference's side -/
def am_sdF (o : Nat) : Bool := decide (o < 373) || decide (1000 ≤ o)
def am_sdR (o : Nat) : Bool := (decide (373 ≤ o) && decide (o < 389)) || decide (1000 ≤ o)
def am_sck (p : Nat → Bool) : Bool := (List.range 390).all (fun o => !(p o) || ((!(am_kd o == 24) || (List.range (am_ln o)).all (fun i => p (o + 1 + i))) && (!(am_kd o == 25) || (List.range (am_ln o)).all (fun i => p (o + 1 + 22 * i))) && am_PL.all (fun q => !(am_kk (am_kd o) q.2) || p (am_tg o q.1))))
theorem am_sckF : am_sck am_sdF = true := by decide +kernel
theorem am_sckR : am_sck am_sdR = true := by decide +kernel
theorem am_sck_at {p : Nat → Bool} (h : am_sck p = true) {o : Nat} (ho : o < 390) (hp : p o = true) : (am_kd o = 24 → ∀ i, i < am_ln o → p (o + 1 + i) = true) ∧ (am_kd o = 25 → ∀ i, i < am_ln o → p (o + 1 + 22 * i) = true) ∧ ∀ q ∈ am_PL, am_kk (am_kd o) q.2 = true → p (am_tg o q.1) = true := by
  have h1 := List.all_eq_true.mp h o (List.mem_range.mpr ho)
  rw [hp] at h1
  simp only [Bool.not_true, Bool.false_or, Bool.and_eq_true] at h1
  obtain ⟨⟨a1, a2⟩, a3⟩ := h1
  refine ⟨fun e i hi => ?_, fun e i hi => ?_, fun q hq e => ?_⟩
  · rw [e] at a1
    exact List.all_eq_true.mp a1 i (List.mem_range.mpr hi)
  · rw [e] at a2
    exact List.all_eq_true.mp a2 i (List.mem_range.mpr hi)
  · have := List.all_eq_true.mp a3 q hq
    rw [e] at this
    exact this
theorem am_sck_sd {p : Nat → Bool} (h : am_sck p = true) (h1 : ∀ a, p (1000 + a) = true) : am_sd (fun o => p o = true) := by
  refine ⟨fun o i ho e hi => ?_, fun o i ho e hi => ?_, h1⟩
  · exact (am_sck_at h (am_kd_lt (by rw [e]; decide)) ho).1 e i hi
  · exact (am_sck_at h (am_kd_lt (by rw [e]; decide)) ho).2.1 e i hi
theorem am_sck_sI {p : Nat → Bool} (h : am_sck p = true) (hb : ∀ q ∈ am_PL, q.2 < 11 ∨ q.2 = 35) : ∀ k b, am_sIs (fun o => p o = true) ((am_bl k).getD b []) := fun k b i hi hop o ho hk => by
  have hin := am_PL_in k b i hi hop
  have hlt := am_kk_lt hk (hb _ hin)
  exact (am_sck_at h (am_kd_lt (by omega)) ho).2.2 _ hin hk
theorem am_PL_b : ∀ q ∈ am_PL, q.2 < 11 ∨ q.2 = 35 := by decide +kernel
theorem am_sdF_t (a : Nat) : am_sdF (1000 + a) = true := by simp [am_sdF]
theorem am_sdR_t (a : Nat) : am_sdR (1000 + a) = true := by simp [am_sdR]
/-- a call of the class leaves the reference's cells alone -/
theorem am_frF {d j : Nat} {av : List Value} {h : am_H} {r : am_R} (hav : ∀ v ∈ av, am_pv (fun o => am_sdF o = true) v) (e : am_cl d j av h = some r) {o : Nat} (ho : 373 ≤ o ∧ o < 1000) : r.2.2 o = h.2 o :=
  am_cl_side (am_sck_sd am_sckF am_sdF_t) (am_sck_sI am_sckF am_PL_b) d j av h r hav e o (by simp [am_sdF]; omega)
/-- a call of the reference leaves the class's cells alone -/
theorem am_frR {d j : Nat} {av : List Value} {h : am_H} {r : am_R} (hav : ∀ v ∈ av, am_pv (fun o => am_sdR o = true) v) (e : am_cl d j av h = some r) {o : Nat} (ho : o < 373) : r.2.2 o = h.2 o :=
  am_cl_side (am_sck_sd am_sckR am_sdR_t) (am_sck_sI am_sckR am_PL_b) d j av h r hav e o (by simp [am_sdR]; omega)

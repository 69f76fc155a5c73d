/-! the frame of the abstract machine: the script stays, exceptions are counted -/
/-- the operands of a step are of the kinds that fields have -/
def am_bk (op b : Nat) : Prop := (op = 20 ∨ op = 21) → b < 11 ∨ b = 35
set_option maxHeartbeats 4000000 in
theorem am_st_fr {op a b : Nat} {z : Int32} {ls st : List Value} {h : am_H} {K : List Value → List Value → am_H → Option am_R} {r : am_R} (hb : am_bk op b) (e : am_st op a b z ls st h K = some r) : ∃ ls1 st1 h1, K ls1 st1 h1 = some r ∧ am_fr h h1 ∧ h1.1 = h.1 := by
  unfold am_st at e
  split at e
  all_goals first
    | exact (Option.some_ne_none _ e.symm).elim
    | exact ⟨_, _, _, e, am_fr.rf _, rfl⟩
    | (repeat' split at e
       all_goals first
         | exact (Option.some_ne_none _ e.symm).elim
         | exact ⟨_, _, _, e, am_fr.rf _, rfl⟩
         | exact ⟨_, _, _, e, am_fr_up (by omega), rfl⟩
         | exact ⟨_, _, _, e, am_fr_cp (by omega), rfl⟩
         | exact ⟨_, _, _, e, am_fr_up (am_kk_ne ‹_› (hb (by simp))), rfl⟩)
/-- all steps of a list are so -/
def am_bks (l : List am_I) : Prop := ∀ i ∈ l, am_bk i.2.1 i.2.2.2.1
theorem am_kI_fr {q : Option am_R} {f : Int32 → am_H → Option am_R} {r : am_R} {h : am_H} (hq : ∀ x, q = some x → am_fr h x.2) (hf : ∀ v h1, am_fr h h1 → f v h1 = some r → am_fr h r.2) (e : am_kI q f = some r) : am_fr h r.2 := by
  unfold am_kI at e
  split at e
  · exact hf _ _ (hq _ rfl) e
  · cases e; exact hq _ rfl
  · exact (Option.some_ne_none _ e.symm).elim
theorem am_kV_fr {q : Option am_R} {f : am_H → Option am_R} {r : am_R} {h : am_H} (hq : ∀ x, q = some x → am_fr h x.2) (hf : ∀ h1, am_fr h h1 → f h1 = some r → am_fr h r.2) (e : am_kV q f = some r) : am_fr h r.2 := by
  unfold am_kV at e
  split at e
  · exact hf _ (hq _ rfl) e
  · cases e; exact hq _ rfl
  · exact (Option.some_ne_none _ e.symm).elim
theorem am_nI_fr {q : Option am_R} {f : Int32 → am_H → Option am_R} {r : am_R} {h : am_H} (hq : ∀ x, q = some x → am_fr h x.2) (hf : ∀ v h1, am_fr h h1 → f v h1 = some r → am_fr h r.2) (e : am_nI q f = some r) : am_fr h r.2 := by
  unfold am_nI at e
  split at e
  · exact hf _ _ (hq _ rfl) e
  · exact (Option.some_ne_none _ e.symm).elim
theorem am_nV_fr {q : Option am_R} {f : am_H → Option am_R} {r : am_R} {h : am_H} (hq : ∀ x, q = some x → am_fr h x.2) (hf : ∀ h1, am_fr h h1 → f h1 = some r → am_fr h r.2) (e : am_nV q f = some r) : am_fr h r.2 := by
  unfold am_nV at e
  split at e
  · exact hf _ (hq _ rfl) e
  · exact (Option.some_ne_none _ e.symm).elim
theorem am_cI_fr {t : List (Nat × Int32)} {q : Option am_R} {f : Int32 → am_H → Option am_R} {r : am_R} {h : am_H} (hq : ∀ x, q = some x → am_fr h x.2) (hf : ∀ v h1, am_fr h h1 → f v h1 = some r → am_fr h r.2) (e : am_cI t q f = some r) : am_fr h r.2 := by
  unfold am_cI at e
  split at e
  · exact hf _ _ (hq _ rfl) e
  · split at e
    · cases e; exact hq (Sum.inr _, _) rfl
    · exact (Option.some_ne_none _ e.symm).elim
  · exact (Option.some_ne_none _ e.symm).elim
set_option maxHeartbeats 4000000 in
theorem am_ex_fr {Φ : am_F} {G : am_J} (hΦ : ∀ j av h r, Φ j av h = some r → am_fr h r.2) (hG : ∀ b ls st h r, G b ls st h = some r → am_fr h r.2) : ∀ (ops : List am_I), am_bks ops → ∀ (ls st : List Value) (h : am_H) (r : am_R), am_ex Φ G ops ls st h = some r → am_fr h r.2 := by
  intro ops
  induction ops with
  | nil => intro _ ls st h r e; simp [am_ex] at e
  | cons i ops ih =>
    intro hbs ls st h r e
    have ih := ih (fun i hi => hbs i (List.mem_cons_of_mem _ hi))
    have hb := hbs i List.mem_cons_self
    obtain ⟨pc, op, a, b, z⟩ := i
    unfold am_ex at e
    by_cases ho : op < 50
    · rw [if_pos ho] at e
      obtain ⟨ls1, st1, h1, e1, f1, -⟩ := am_st_fr hb e
      exact f1.tr (ih _ _ _ _ e1)
    · rw [if_neg ho] at e
      clear ho
      have kI : ∀ (q : Option am_R) (ls1 st1 : List Value), (∀ x, q = some x → am_fr h x.2) → am_kI q (fun v h1 => am_ex Φ G ops ls1 (.int v :: st1) h1) = some r → am_fr h r.2 := fun q ls1 st1 hq e => am_kI_fr hq (fun v h1 f e => f.tr (ih _ _ _ _ e)) e
      have kV : ∀ (q : Option am_R) (ls1 st1 : List Value), (∀ x, q = some x → am_fr h x.2) → am_kV q (fun h1 => am_ex Φ G ops ls1 st1 h1) = some r → am_fr h r.2 := fun q ls1 st1 hq e => am_kV_fr hq (fun h1 f e => f.tr (ih _ _ _ _ e)) e
      have nI : ∀ (q : Option am_R) (ls1 st1 : List Value), (∀ x, q = some x → am_fr h x.2) → am_nI q (fun v h1 => am_ex Φ G ops ls1 (.int v :: st1) h1) = some r → am_fr h r.2 := fun q ls1 st1 hq e => am_nI_fr hq (fun v h1 f e => f.tr (ih _ _ _ _ e)) e
      have nV : ∀ (q : Option am_R) (ls1 st1 : List Value), (∀ x, q = some x → am_fr h x.2) → am_nV q (fun h1 => am_ex Φ G ops ls1 st1 h1) = some r → am_fr h r.2 := fun q ls1 st1 hq e => am_nV_fr hq (fun h1 f e => f.tr (ih _ _ _ _ e)) e
      have cI : ∀ (t : List (Nat × Int32)) (q : Option am_R) (ls1 st1 : List Value), (∀ x, q = some x → am_fr h x.2) → am_cI t q (fun v h1 => am_ex Φ G ops ls1 (.int v :: st1) h1) = some r → am_fr h r.2 := fun t q ls1 st1 hq e => am_cI_fr hq (fun v h1 f e => f.tr (ih _ _ _ _ e)) e
      split at e
      all_goals first
        | exact (Option.some_ne_none _ e.symm).elim
        | exact hG _ _ _ _ _ e
        | (repeat' split at e
           all_goals first
             | exact (Option.some_ne_none _ e.symm).elim
             | exact hG _ _ _ _ _ e
             | (cases e; exact am_fr.rf _)
             | (cases e; exact ⟨Nat.le_succ _, rfl, rfl⟩)
             | exact kI _ _ _ (fun x hx => hΦ _ _ _ _ hx) e
             | exact kV _ _ _ (fun x hx => hΦ _ _ _ _ hx) e
             | exact nI _ _ _ (fun x hx => hΦ _ _ _ _ hx) e
             | exact nV _ _ _ (fun x hx => hΦ _ _ _ _ hx) e
             | exact cI _ _ _ _ (fun x hx => hΦ _ _ _ _ hx) e)
/-- all steps of all methods are so -/
noncomputable def am_bka : Bool := am_blL.all (fun p => p.all (fun q => q.all (fun i => if i.2.1 = 20 ∨ i.2.1 = 21 then decide (i.2.2.2.1 < 11) || decide (i.2.2.2.1 = 35) else true)))
theorem am_bka_ok : am_bka = true := by decide +kernel
theorem am_bks_all (k b : Nat) : am_bks ((am_bl k).getD b []) := by
  have h0 : ∀ p ∈ am_blL, ∀ q ∈ p, am_bks q := by
    have h := am_bka_ok
    unfold am_bka at h
    intro p hp q hq i hi ho
    have h1 := List.all_eq_true.mp (List.all_eq_true.mp (List.all_eq_true.mp h p hp) q hq) i hi
    rw [if_pos ho] at h1
    simpa using h1
  have hn : am_bks [] := fun i hi => by cases hi
  unfold am_bl
  rw [List.getD_eq_getElem?_getD, List.getD_eq_getElem?_getD]
  cases hk : am_blL[k]? with
  | none =>
    cases hb : ([] : List (List am_I))[b]? with
    | none => simpa [hb] using hn
    | some q => simp at hb
  | some p =>
    show am_bks ((p[b]?).getD [])
    cases hb : p[b]? with
    | none => simpa [hb] using hn
    | some q => exact h0 p (List.mem_of_getElem? hk) q (List.mem_of_getElem? hb)
theorem am_gN_fr {Φ : am_F} (hΦ : ∀ j av h r, Φ j av h = some r → am_fr h r.2) (k : Nat) : ∀ (n b : Nat) (ls st : List Value) (h : am_H) (r : am_R), am_gN Φ k n b ls st h = some r → am_fr h r.2 := by
  intro n
  induction n with
  | zero => intro b ls st h r e; simp [am_gN] at e
  | succ n ih => intro b ls st h r e; exact am_ex_fr hΦ ih _ (am_bks_all k b) _ _ _ _ e
theorem am_cl_fr : ∀ (d j : Nat) (av : List Value) (h : am_H) (r : am_R), am_cl d j av h = some r → am_fr h r.2 := by
  intro d
  induction d with
  | zero => intro j av h r e; simp [am_cl] at e
  | succ d ih =>
    intro j av h r e
    unfold am_cl at e
    split at e
    · obtain ⟨n, e⟩ := am_go_some.mp e
      exact am_gN_fr ih j n _ _ _ _ _ e
    · exact (Option.some_ne_none _ e.symm).elim

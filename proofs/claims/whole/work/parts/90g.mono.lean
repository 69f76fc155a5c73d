/-! deeper calls answer the same -/
theorem am_kI_up {q q' : Option am_R} {f f' : Int32 → am_H → Option am_R} {r : am_R} (hq : ∀ x, q = some x → q' = some x) (hf : ∀ v h, f v h = some r → f' v h = some r) (e : am_kI q f = some r) : am_kI q' f' = some r := by
  unfold am_kI at e
  split at e
  · rw [hq _ rfl]; exact hf _ _ e
  · rw [hq _ rfl]; exact e
  · exact (Option.some_ne_none _ e.symm).elim
theorem am_kV_up {q q' : Option am_R} {f f' : am_H → Option am_R} {r : am_R} (hq : ∀ x, q = some x → q' = some x) (hf : ∀ h, f h = some r → f' h = some r) (e : am_kV q f = some r) : am_kV q' f' = some r := by
  unfold am_kV at e
  split at e
  · rw [hq _ rfl]; exact hf _ e
  · rw [hq _ rfl]; exact e
  · exact (Option.some_ne_none _ e.symm).elim
theorem am_nI_up {q q' : Option am_R} {f f' : Int32 → am_H → Option am_R} {r : am_R} (hq : ∀ x, q = some x → q' = some x) (hf : ∀ v h, f v h = some r → f' v h = some r) (e : am_nI q f = some r) : am_nI q' f' = some r := by
  unfold am_nI at e
  split at e
  · rw [hq _ rfl]; exact hf _ _ e
  · exact (Option.some_ne_none _ e.symm).elim
theorem am_nV_up {q q' : Option am_R} {f f' : am_H → Option am_R} {r : am_R} (hq : ∀ x, q = some x → q' = some x) (hf : ∀ h, f h = some r → f' h = some r) (e : am_nV q f = some r) : am_nV q' f' = some r := by
  unfold am_nV at e
  split at e
  · rw [hq _ rfl]; exact hf _ e
  · exact (Option.some_ne_none _ e.symm).elim
theorem am_cI_up {t : List (Nat × Int32)} {q q' : Option am_R} {f f' : Int32 → am_H → Option am_R} {r : am_R} (hq : ∀ x, q = some x → q' = some x) (hf : ∀ v h, f v h = some r → f' v h = some r) (e : am_cI t q f = some r) : am_cI t q' f' = some r := by
  unfold am_cI at e
  split at e
  · rw [hq _ rfl]; exact hf _ _ e
  · rw [hq _ rfl]; exact e
  · exact (Option.some_ne_none _ e.symm).elim
set_option maxHeartbeats 4000000 in
theorem am_ex_up {Φ Φ' : am_F} (hΦ : ∀ j av h x, Φ j av h = some x → Φ' j av h = some x) {G G' : am_J} {r : am_R} (hG : ∀ b ls st h, G b ls st h = some r → G' b ls st h = some r) : ∀ (ops : List am_I) (ls st : List Value) (h : am_H), am_ex Φ G ops ls st h = some r → am_ex Φ' G' ops ls st h = some r := by
  intro ops
  induction ops with
  | nil => intro ls st h e; simp [am_ex] at e
  | cons i ops ih =>
    obtain ⟨pc, op, a, b, z⟩ := i
    intro ls st h e
    unfold am_ex at e ⊢
    by_cases ho : op < 50
    · rw [if_pos ho] at e ⊢
      exact am_st_mono (fun l s h q => ih _ _ _ q) e
    · rw [if_neg ho] at e ⊢
      clear ho
      split at e
      all_goals first
        | exact e
        | exact hG _ _ _ _ e
        | (repeat' split at e
           all_goals first
             | exact (Option.some_ne_none _ e.symm).elim
             | exact e
             | exact hG _ _ _ _ e
             | (simp only [*, if_true, if_false, and_self, or_true, true_or, reduceIte] <;> first | exact hG _ _ _ _ e | exact am_kI_up (fun x hx => hΦ _ _ _ _ hx) (fun v h1 q => ih _ _ _ q) e | exact am_kV_up (fun x hx => hΦ _ _ _ _ hx) (fun h1 q => ih _ _ _ q) e | exact am_nI_up (fun x hx => hΦ _ _ _ _ hx) (fun v h1 q => ih _ _ _ q) e | exact am_nV_up (fun x hx => hΦ _ _ _ _ hx) (fun h1 q => ih _ _ _ q) e | exact am_cI_up (fun x hx => hΦ _ _ _ _ hx) (fun v h1 q => ih _ _ _ q) e))
theorem am_gN_upF {Φ Φ' : am_F} (hΦ : ∀ j av h x, Φ j av h = some x → Φ' j av h = some x) {k : Nat} {r : am_R} : ∀ (n b : Nat) (ls st : List Value) (h : am_H), am_gN Φ k n b ls st h = some r → am_gN Φ' k n b ls st h = some r := by
  intro n
  induction n with
  | zero => intro b ls st h e; simp [am_gN] at e
  | succ n ih => intro b ls st h e; exact am_ex_up hΦ ih _ _ _ _ e
theorem am_cl_up : ∀ (d : Nat) {j : Nat} {av : List Value} {h : am_H} {r : am_R}, am_cl d j av h = some r → am_cl (d + 1) j av h = some r := by
  intro d
  induction d with
  | zero => intro j av h r e; simp [am_cl] at e
  | succ d ih =>
    intro j av h r e
    unfold am_cl at e ⊢
    split at e
    · rename_i hc
      rw [if_pos hc]
      obtain ⟨n, e⟩ := am_go_some.mp e
      exact am_go_some.mpr ⟨n, am_gN_upF (fun j av h x q => ih q) n _ _ _ _ e⟩
    · exact (Option.some_ne_none _ e.symm).elim
theorem am_cl_le {d d' : Nat} (hd : d ≤ d') {j : Nat} {av : List Value} {h : am_H} {r : am_R} (e : am_cl d j av h = some r) : am_cl d' j av h = some r := by
  induction hd with
  | refl => exact e
  | step _ ih => exact am_cl_up _ ih
theorem am_go_le {d d' : Nat} (hd : d ≤ d') {k b : Nat} {ls st : List Value} {h : am_H} {r : am_R} (e : am_go (am_cl d) k b ls st h = some r) : am_go (am_cl d') k b ls st h = some r := by
  obtain ⟨n, e⟩ := am_go_some.mp e
  exact am_go_some.mpr ⟨n, am_gN_upF (fun j av h x q => am_cl_le hd q) n _ _ _ _ e⟩

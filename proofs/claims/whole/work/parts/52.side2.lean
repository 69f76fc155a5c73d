/-! a call keeps to its side -/
theorem am_kI_F {F : am_H → Prop} {q : Option am_R} {f : Int32 → am_H → Option am_R} {r : am_R} (hq : ∀ x, q = some x → F x.2) (hf : ∀ v h1, F h1 → f v h1 = some r → F r.2) (e : am_kI q f = some r) : F r.2 := by
  unfold am_kI at e
  split at e
  · exact hf _ _ (hq _ rfl) e
  · cases e; exact hq _ rfl
  · exact (Option.some_ne_none _ e.symm).elim
theorem am_kV_F {F : am_H → Prop} {q : Option am_R} {f : am_H → Option am_R} {r : am_R} (hq : ∀ x, q = some x → F x.2) (hf : ∀ h1, F h1 → f h1 = some r → F r.2) (e : am_kV q f = some r) : F r.2 := by
  unfold am_kV at e
  split at e
  · exact hf _ (hq _ rfl) e
  · cases e; exact hq _ rfl
  · exact (Option.some_ne_none _ e.symm).elim
theorem am_nI_F {F : am_H → Prop} {q : Option am_R} {f : Int32 → am_H → Option am_R} {r : am_R} (hq : ∀ x, q = some x → F x.2) (hf : ∀ v h1, F h1 → f v h1 = some r → F r.2) (e : am_nI q f = some r) : F r.2 := by
  unfold am_nI at e
  split at e
  · exact hf _ _ (hq _ rfl) e
  · exact (Option.some_ne_none _ e.symm).elim
theorem am_nV_F {F : am_H → Prop} {q : Option am_R} {f : am_H → Option am_R} {r : am_R} (hq : ∀ x, q = some x → F x.2) (hf : ∀ h1, F h1 → f h1 = some r → F r.2) (e : am_nV q f = some r) : F r.2 := by
  unfold am_nV at e
  split at e
  · exact hf _ (hq _ rfl) e
  · exact (Option.some_ne_none _ e.symm).elim
theorem am_cI_F {F : am_H → Prop} {t : List (Nat × Int32)} {q : Option am_R} {f : Int32 → am_H → Option am_R} {r : am_R} (hq : ∀ x, q = some x → F x.2) (hf : ∀ v h1, F h1 → f v h1 = some r → F r.2) (e : am_cI t q f = some r) : F r.2 := by
  unfold am_cI at e
  split at e
  · exact hf _ _ (hq _ rfl) e
  · split at e
    · cases e; exact hq (Sum.inr _, _) rfl
    · exact (Option.some_ne_none _ e.symm).elim
  · exact (Option.some_ne_none _ e.symm).elim
def am_sF (P : Nat → Prop) (h h1 : am_H) : Prop := ∀ o, ¬ P o → h1.2 o = h.2 o
theorem am_sF.tr {P : Nat → Prop} {a b c : am_H} (h1 : am_sF P a b) (h2 : am_sF P b c) : am_sF P a c := fun o ho => (h2 o ho).trans (h1 o ho)
def am_sIs (P : Nat → Prop) (l : List am_I) : Prop := ∀ i ∈ l, am_sI P i.2.1 i.2.2.1 i.2.2.2.1
theorem am_pv_int {P : Nat → Prop} {v : Int32} {st : List Value} (h : ∀ v ∈ st, am_pv P v) : ∀ u ∈ Value.int v :: st, am_pv P u := fun u hu => by
  rcases List.mem_cons.mp hu with q | q
  · rw [q]; trivial
  · exact h u q
set_option maxHeartbeats 8000000 in
theorem am_ex_side {P : Nat → Prop} (hP : am_sd P) {Φ : am_F} {G : am_J} (hΦ : ∀ j av h r, (∀ v ∈ av, am_pv P v) → Φ j av h = some r → am_sF P h r.2) (hG : ∀ b ls st h r, (∀ v ∈ ls, am_pv P v) → (∀ v ∈ st, am_pv P v) → G b ls st h = some r → am_sF P h r.2) : ∀ (ops : List am_I), am_sIs P ops → ∀ (ls st : List Value) (h : am_H) (r : am_R), (∀ v ∈ ls, am_pv P v) → (∀ v ∈ st, am_pv P v) → am_ex Φ G ops ls st h = some r → am_sF P h r.2 := by
  intro ops
  induction ops with
  | nil => intro _ ls st h r _ _ e; simp [am_ex] at e
  | cons i ops ih =>
    intro hbs ls st h r hls hst e
    have ih := ih (fun i hi => hbs i (List.mem_cons_of_mem _ hi))
    have hb := hbs i List.mem_cons_self
    obtain ⟨pc, op, a, b, z⟩ := i
    unfold am_ex at e
    by_cases ho : op < 50
    · rw [if_pos ho] at e
      obtain ⟨ls1, st1, h1, e1, f1, f2, f3⟩ := am_st_side hP hb hls hst e
      exact am_sF.tr f3 (ih _ _ _ _ f1 f2 e1)
    · rw [if_neg ho] at e
      clear ho
      have hdr : ∀ n, ∀ v ∈ st.drop n, am_pv P v := fun n v hv => hst v (List.mem_of_mem_drop hv)
      have htk : ∀ n, ∀ v ∈ (st.take n).reverse, am_pv P v := fun n v hv => hst v (List.mem_of_mem_take (List.mem_reverse.mp hv))
      have kI : ∀ (q : Option am_R) (st1 : List Value), (∀ v ∈ st1, am_pv P v) → (∀ x, q = some x → am_sF P h x.2) → am_kI q (fun v h1 => am_ex Φ G ops ls (.int v :: st1) h1) = some r → am_sF P h r.2 := fun q st1 h9 hq e => am_kI_F hq (fun v h1 f e => f.tr (ih _ _ _ _ hls (am_pv_int h9) e)) e
      have kV : ∀ (q : Option am_R) (st1 : List Value), (∀ v ∈ st1, am_pv P v) → (∀ x, q = some x → am_sF P h x.2) → am_kV q (fun h1 => am_ex Φ G ops ls st1 h1) = some r → am_sF P h r.2 := fun q st1 h9 hq e => am_kV_F hq (fun h1 f e => f.tr (ih _ _ _ _ hls h9 e)) e
      have nI : ∀ (q : Option am_R) (st1 : List Value), (∀ v ∈ st1, am_pv P v) → (∀ x, q = some x → am_sF P h x.2) → am_nI q (fun v h1 => am_ex Φ G ops ls (.int v :: st1) h1) = some r → am_sF P h r.2 := fun q st1 h9 hq e => am_nI_F hq (fun v h1 f e => f.tr (ih _ _ _ _ hls (am_pv_int h9) e)) e
      have nV : ∀ (q : Option am_R) (st1 : List Value), (∀ v ∈ st1, am_pv P v) → (∀ x, q = some x → am_sF P h x.2) → am_nV q (fun h1 => am_ex Φ G ops ls st1 h1) = some r → am_sF P h r.2 := fun q st1 h9 hq e => am_nV_F hq (fun h1 f e => f.tr (ih _ _ _ _ hls h9 e)) e
      have cI : ∀ (t : List (Nat × Int32)) (q : Option am_R) (st1 : List Value), (∀ v ∈ st1, am_pv P v) → (∀ x, q = some x → am_sF P h x.2) → am_cI t q (fun v h1 => am_ex Φ G ops ls (.int v :: st1) h1) = some r → am_sF P h r.2 := fun t q st1 h9 hq e => am_cI_F hq (fun v h1 f e => f.tr (ih _ _ _ _ hls (am_pv_int h9) e)) e
      split at e
      all_goals first
        | exact (Option.some_ne_none _ e.symm).elim
        | exact hG _ _ _ _ _ hls hst e
        | (repeat' split at e
           all_goals first
             | exact (Option.some_ne_none _ e.symm).elim
             | exact hG _ _ _ _ _ hls (fun v hv => hst v (List.mem_cons_of_mem _ hv)) e
             | exact hG _ _ _ _ _ hls (fun v hv => hst v (List.mem_cons_of_mem _ (List.mem_cons_of_mem _ hv))) e
             | (cases e; exact fun _ _ => rfl)
             | exact kI _ _ (hdr _) (fun x hx => hΦ _ _ _ _ (htk _) hx) e
             | exact kV _ _ (hdr _) (fun x hx => hΦ _ _ _ _ (htk _) hx) e
             | exact nI _ _ (hdr _) (fun x hx => hΦ _ _ _ _ (htk _) hx) e
             | exact nV _ _ (hdr _) (fun x hx => hΦ _ _ _ _ (htk _) hx) e
             | exact cI _ _ _ (hdr _) (fun x hx => hΦ _ _ _ _ (htk _) hx) e
             | exact nI _ _ (fun v hv => hst v (List.mem_cons_of_mem _ hv)) (fun x hx => hΦ _ _ _ _ (fun v hv => hst v (by rw [List.mem_singleton.mp hv]; exact List.mem_cons_self)) hx) e)
theorem am_gN_side {P : Nat → Prop} (hP : am_sd P) (hI : ∀ k b, am_sIs P ((am_bl k).getD b [])) {Φ : am_F} (hΦ : ∀ j av h r, (∀ v ∈ av, am_pv P v) → Φ j av h = some r → am_sF P h r.2) (k : Nat) : ∀ (n b : Nat) (ls st : List Value) (h : am_H) (r : am_R), (∀ v ∈ ls, am_pv P v) → (∀ v ∈ st, am_pv P v) → am_gN Φ k n b ls st h = some r → am_sF P h r.2 := by
  intro n
  induction n with
  | zero => intro b ls st h r _ _ e; simp [am_gN] at e
  | succ n ih => intro b ls st h r h1 h2 e; exact am_ex_side hP hΦ ih _ (hI k b) _ _ _ _ h1 h2 e
theorem am_cl_side {P : Nat → Prop} (hP : am_sd P) (hI : ∀ k b, am_sIs P ((am_bl k).getD b [])) : ∀ (d j : Nat) (av : List Value) (h : am_H) (r : am_R), (∀ v ∈ av, am_pv P v) → am_cl d j av h = some r → am_sF P h r.2 := by
  intro d
  induction d with
  | zero => intro j av h r _ e; simp [am_cl] at e
  | succ d ih =>
    intro j av h r hav e
    unfold am_cl at e
    split at e
    · obtain ⟨n, e⟩ := am_go_some.mp e
      refine am_gN_side hP hI ih j n _ _ _ _ _ (fun v hv => ?_) (fun v hv => by cases hv) e
      unfold am_en at hv
      rcases List.mem_append.mp hv with q | q
      · exact hav v q
      · rw [List.eq_of_mem_replicate q]; trivial
    · exact (Option.some_ne_none _ e.symm).elim

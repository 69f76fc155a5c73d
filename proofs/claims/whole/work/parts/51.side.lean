/-! TWO SIDES: a method whose refs are of one side leaves the other side's cells alone -/
def am_pv (P : Nat → Prop) (v : Value) : Prop := match v with
  | .ref o => P o
  | _ => True
/-- a side: closed under what the steps read -/
def am_sd (P : Nat → Prop) : Prop := (∀ o i, P o → am_kd o = 24 → i < am_ln o → P (o + 1 + i)) ∧ (∀ o i, P o → am_kd o = 25 → i < am_ln o → P (o + 1 + 22 * i)) ∧ ∀ a, P (1000 + a)
def am_sI (P : Nat → Prop) (op a b : Nat) : Prop := op = 19 → ∀ o, P o → am_kk (am_kd o) b = true → P (am_tg o a)
theorem am_pv_set {P : Nat → Prop} {ls : List Value} {a : Nat} {x : Int32} (h : ∀ v ∈ ls, am_pv P v) : ∀ v ∈ ls.set a (.int x), am_pv P v := fun v hv => by
  rcases List.mem_or_eq_of_mem_set hv with q | q
  · exact h v q
  · rw [q]; trivial
theorem am_la_mem : ∀ {ls : List Value} {a o : Nat}, am_la ls a = some o → Value.ref o ∈ ls := fun {ls a o} h => List.mem_of_getElem? (am_la_at h)
theorem am_in_lt {i : Int32} {n : Nat} (h : am_in i n = true) : i.toNatClampNeg < n := by
  unfold am_in at h
  simp at h
  exact h.2
set_option maxHeartbeats 8000000 in
theorem am_st_side {P : Nat → Prop} (hP : am_sd P) {op a b : Nat} {z : Int32} {ls st : List Value} {h : am_H} {K : List Value → List Value → am_H → Option am_R} {r : am_R} (hI : am_sI P op a b) (hls : ∀ v ∈ ls, am_pv P v) (hst : ∀ v ∈ st, am_pv P v) (e : am_st op a b z ls st h K = some r) : ∃ ls1 st1 h1, K ls1 st1 h1 = some r ∧ (∀ v ∈ ls1, am_pv P v) ∧ (∀ v ∈ st1, am_pv P v) ∧ ∀ o, ¬ P o → h1.2 o = h.2 o := by
  unfold am_st at e
  split at e
  all_goals (repeat' split at e)
  all_goals first
    | exact (Option.some_ne_none _ e.symm).elim
    | skip
  all_goals (try simp only [List.forall_mem_cons] at hst)
  all_goals first
    | exact ⟨_, _, _, e, hls, by simp only [List.forall_mem_cons]; exact ⟨trivial, hst⟩, fun _ _ => rfl⟩
    | exact ⟨_, _, _, e, hls, by simp only [List.forall_mem_cons]; exact ⟨trivial, hst.2⟩, fun _ _ => rfl⟩
    | exact ⟨_, _, _, e, hls, by simp only [List.forall_mem_cons]; exact ⟨trivial, hst.2.2⟩, fun _ _ => rfl⟩
    | exact ⟨_, _, _, e, am_pv_set hls, hst.2, fun _ _ => rfl⟩
    | exact ⟨_, _, _, e, am_pv_set hls, hst, fun _ _ => rfl⟩
    | exact ⟨_, _, _, e, hls, hst.2, fun _ _ => rfl⟩
    | exact ⟨_, _, _, e, hls, hst.2.2, fun o ho => am_up_ne _ _ _ (fun q => ho (by rw [q]; exact hst.2.1))⟩
    | exact ⟨_, _, _, e, hls, hst.2.2.2, fun o ho => am_up_ne _ _ _ (fun q => ho (by rw [q]; exact hst.2.2.1))⟩
    | exact ⟨_, _, _, e, hls, by simp only [List.forall_mem_cons]; exact ⟨hls _ (am_la_mem ‹_›), hst⟩, fun _ _ => rfl⟩
    | exact ⟨_, _, _, e, hls, by simp only [List.forall_mem_cons]; exact ⟨hst.1, hst.1, hst.2⟩, fun _ _ => rfl⟩
    | exact ⟨_, _, _, e, hls, by simp only [List.forall_mem_cons]; exact ⟨hst.1, hst.2.1, hst.1, hst.2.1, hst.2.2⟩, fun _ _ => rfl⟩
    | exact ⟨_, _, _, e, hls, by simp only [List.forall_mem_cons]; exact ⟨hI rfl _ hst.1 ‹_›, hst.2⟩, fun _ _ => rfl⟩
    | exact ⟨_, _, _, e, hls, by simp only [List.forall_mem_cons]; exact ⟨hP.1 _ _ hst.2.1 ‹_› (am_in_lt ‹_›), hst.2.2⟩, fun _ _ => rfl⟩
    | exact ⟨_, _, _, e, hls, by simp only [List.forall_mem_cons]; exact ⟨hP.2.1 _ _ hst.2.1 ‹_› (am_in_lt ‹_›), hst.2.2⟩, fun _ _ => rfl⟩
    | exact ⟨_, _, _, e, hls, by simp only [List.forall_mem_cons]; exact ⟨hP.2.2 _, hst⟩, fun _ _ => rfl⟩
    | exact ⟨_, _, _, e, hls, hst.2.2.2.2.2, fun o ho => am_cp_ne _ _ _ _ (fun q => ho (by rw [q]; exact hst.2.2.1))⟩
    | skip

/-! rings of pointers -/
def it (f : Nat → Nat) : Nat → Nat → Nat
  | 0, a => a
  | n + 1, a => f (it f n a)
theorem it_S {f : Nat → Nat} {n a : Nat} : it f (n + 1) a = f (it f n a) := rfl
theorem it_add {f : Nat → Nat} : ∀ (m n a : Nat), it f (m + n) a = it f m (it f n a) := by
  intro m n a
  induction m with
  | zero => rw [Nat.zero_add]; rfl
  | succ m ih => rw [show m + 1 + n = (m + n) + 1 by omega, it_S, it_S, ih]
theorem it_mul {f : Nat → Nat} {a m : Nat} (h : it f m a = a) : ∀ j, it f (j * m) a = a := by
  intro j
  induction j with
  | zero => rw [Nat.zero_mul]; rfl
  | succ j ih => rw [Nat.succ_mul, it_add, h, ih]
theorem it_back {f : Nat → Nat} {a m : Nat} (hm : 1 ≤ m) (h : it f m a = a) (n : Nat) : ∃ k, it f k (it f n a) = a := by
  refine ⟨n * m - n, ?_⟩
  have : n ≤ n * m := Nat.le_mul_of_pos_right n (by omega)
  rw [← it_add, Nat.sub_add_cancel this]
  exact it_mul h n
def per (f : Nat → Nat) (x m : Nat) : Prop := 1 ≤ m ∧ it f m x = x ∧ ∀ j, 1 ≤ j → j < m → it f j x ≠ x
theorem per_un {f : Nat → Nat} {x m m' : Nat} (h : per f x m) (h' : per f x m') : m = m' := by
  obtain ⟨a, b, c⟩ := h
  obtain ⟨a', b', c'⟩ := h'
  by_cases q : m < m'
  · exact absurd b (c' m a q)
  · by_cases q' : m' < m
    · exact absurd b' (c m' a' q')
    · omega
theorem per_orb {f : Nat → Nat} {a m : Nat} (h : per f a m) (n : Nat) : per f (it f n a) m := by
  obtain ⟨p1, p2, p3⟩ := h
  refine ⟨p1, ?_, fun j j1 j2 q => ?_⟩
  · rw [← it_add, Nat.add_comm, it_add, p2]
  · obtain ⟨k, hk⟩ := it_back p1 p2 n
    apply p3 j j1 j2
    have : it f j (it f k (it f n a)) = it f k (it f j (it f n a)) := by rw [← it_add j k, Nat.add_comm j k, it_add k j]
    rw [q, hk] at this
    exact this
theorem per_ex {f : Nat → Nat} {a : Nat} : ∀ k m, m ≤ k → 1 ≤ m → it f m a = a → ∃ m', m' ≤ m ∧ per f a m' := by
  intro k
  induction k with
  | zero => intro m h1 h2 _; omega
  | succ k ih =>
    intro m h1 h2 h3
    by_cases hq : ∃ j, 1 ≤ j ∧ j < m ∧ it f j a = a
    · obtain ⟨j, j1, j2, j3⟩ := hq
      obtain ⟨m', a1, a2⟩ := ih j (by omega) j1 j3
      exact ⟨m', by omega, a2⟩
    · exact ⟨m, Nat.le_refl _, h2, h3, fun j j1 j2 q => hq ⟨j, j1, j2, q⟩⟩
theorem per_inj {f : Nat → Nat} {a m : Nat} (h : per f a m) {i j : Nat} (hij : i < j) (hj : j < m) : it f i a ≠ it f j a := fun q => by
  obtain ⟨p1, p2, p3⟩ := h
  apply p3 (m - (j - i)) (by omega) (by omega)
  have h1 : it f (m - j) (it f j a) = a := by rw [← it_add, Nat.sub_add_cancel (by omega)]; exact p2
  rw [← q, ← it_add, show m - j + i = m - (j - i) by omega] at h1
  exact h1
theorem pig : ∀ (N : Nat) (f : Nat → Nat), (∀ i, i ≤ N → f i < N) → ∃ i j, i < j ∧ j ≤ N ∧ f i = f j := by
  intro N
  induction N with
  | zero => intro f h; have := h 0 (Nat.le_refl _); omega
  | succ N ih =>
    intro f h
    by_cases hq : ∃ i, i ≤ N ∧ f i = f (N + 1)
    · obtain ⟨i, hi, e⟩ := hq
      exact ⟨i, N + 1, by omega, Nat.le_refl _, e⟩
    · have hne : ∀ i, i ≤ N → f i ≠ f (N + 1) := fun i hi q => hq ⟨i, hi, q⟩
      obtain ⟨i, j, h1, h2, h3⟩ := ih (fun i => if f i = N then f (N + 1) else f i) (fun i hi => by
        have a := h i (by omega)
        have b := h (N + 1) (Nat.le_refl _)
        have c := hne i hi
        show (if f i = N then f (N + 1) else f i) < N
        split <;> omega)
      refine ⟨i, j, h1, by omega, ?_⟩
      have c1 := hne i (by omega)
      have c2 := hne j h2
      have h3 : (if f i = N then f (N + 1) else f i) = (if f j = N then f (N + 1) else f j) := h3
      by_cases q1 : f i = N
      · by_cases q2 : f j = N
        · rw [q1, q2]
        · rw [if_pos q1, if_neg q2] at h3; exact absurd h3.symm c2
      · by_cases q2 : f j = N
        · rw [if_neg q1, if_pos q2] at h3; exact absurd h3 c1
        · rw [if_neg q1, if_neg q2] at h3; exact h3
/-- on a finite set all is on a ring at last -/
theorem ring_ex {f : Nat → Nat} {N a : Nat} (h : ∀ n, it f n a < N) : ∃ m, 1 ≤ m ∧ m ≤ N ∧ it f m (it f N a) = it f N a := by
  obtain ⟨i, j, h1, h2, h3⟩ := pig N (fun n => it f n a) (fun i _ => h i)
  have h3 : it f i a = it f j a := h3
  refine ⟨j - i, by omega, by omega, ?_⟩
  have e1 : it f N a = it f (N - i) (it f i a) := by rw [← it_add, Nat.sub_add_cancel (by omega)]
  rw [← it_add, show j - i + N = (N - i) + j by omega, it_add, ← h3, ← e1]
theorem per_le {f : Nat → Nat} {N a m : Nat} (h : ∀ n, it f n a < N) (p : per f a m) : m ≤ N := by
  by_cases hq : m ≤ N
  · exact hq
  · obtain ⟨i, j, h1, h2, h3⟩ := pig N (fun n => it f n a) (fun i _ => h i)
    exact absurd h3 (per_inj p h1 (by omega))
def orb (f : Nat → Nat) (a x : Nat) : Prop := ∃ n, it f n a = x
theorem orb_0 {f : Nat → Nat} {a : Nat} : orb f a a := ⟨0, rfl⟩
theorem orb_S {f : Nat → Nat} {a x : Nat} (h : orb f a x) : orb f a (f x) := by
  obtain ⟨n, e⟩ := h
  exact ⟨n + 1, by rw [it_S, e]⟩
theorem orb_it {f : Nat → Nat} {a x : Nat} (h : orb f a x) (k : Nat) : orb f a (it f k x) := by
  obtain ⟨n, e⟩ := h
  exact ⟨k + n, by rw [it_add, e]⟩
theorem orb_back {f : Nat → Nat} {a x m : Nat} (hm : 1 ≤ m) (hc : it f m a = a) (h : orb f a x) : orb f x a := by
  obtain ⟨n, e⟩ := h
  obtain ⟨k, hk⟩ := it_back hm hc n
  exact ⟨k, by rw [← e]; exact hk⟩
theorem orb_tr {f : Nat → Nat} {a b c : Nat} (h1 : orb f a b) (h2 : orb f b c) : orb f a c := by
  obtain ⟨n, e⟩ := h2
  rw [← e]
  exact orb_it h1 n
/-- to whom one points: what is best for it of those left -/
def PT (g : Nat → Nat → Nat) (N : Nat) (L : Nat → Bool) (c : Nat) : Nat := itr (fun o b => if (L o && decide (g c b < g c o)) = true then o else b) N 0 c
def PTs (g : Nat → Nat → Nat) (i : Nat) (L : Nat → Bool) (c b : Nat) : Prop := L b = true ∧ (∀ o, o < i → L o = true → g c o ≤ g c b) ∧ g c c ≤ g c b ∧ (b ≠ c → g c c < g c b) ∧ (b ≠ c → ∀ o, o < b → L o = true → g c o < g c b)
theorem PT_spec {g : Nat → Nat → Nat} {N : Nat} {L : Nat → Bool} {c : Nat} (hc : L c = true) : PTs g N L c (PT g N L c) := by
  have := itr_inv (f := fun o b => if (L o && decide (g c b < g c o)) = true then o else b) (fun i b => PTs g i L c b ∧ (b ≠ c → b < i)) N 0 c ⟨⟨hc, fun o ho => by omega, Nat.le_refl _, fun q => absurd rfl q, fun q => absurd rfl q⟩, fun q => absurd rfl q⟩ (fun i b _ hi h => by
    obtain ⟨⟨h1, h2, h3, h4, h5⟩, h6⟩ := h
    show PTs g (i + 1) L c (if (L i && decide (g c b < g c i)) = true then i else b) ∧ _
    by_cases hq : (L i && decide (g c b < g c i)) = true
    · rw [if_pos hq]
      rw [Bool.and_eq_true, decide_eq_true_eq] at hq
      obtain ⟨q1, q2⟩ := hq
      refine ⟨⟨q1, fun o ho hL => ?_, by omega, fun _ => by omega, fun _ o ho hL => ?_⟩, fun _ => by omega⟩
      · by_cases z : o = i
        · rw [z]; exact Nat.le_refl _
        · have := h2 o (by omega) hL; omega
      · have := h2 o ho hL; omega
    · rw [if_neg hq]
      refine ⟨⟨h1, fun o ho hL => ?_, h3, h4, h5⟩, fun z => by have := h6 z; omega⟩
      by_cases z : o = i
      · subst z
        by_cases w : g c b < g c o
        · exact absurd (by rw [hL, decide_eq_true w]; rfl) hq
        · omega
      · exact h2 o (by omega) hL)
  rw [Nat.zero_add] at this
  exact this.1
theorem PT_iia {g : Nat → Nat → Nat} {N : Nat} {L L' : Nat → Bool} {c : Nat} (hN : ∀ x, L x = true → x < N) (hs : ∀ x, L' x = true → L x = true) (hc : L' c = true) (hb : L' (PT g N L c) = true) : PT g N L' c = PT g N L c := by
  obtain ⟨a1, a2, a3, a4, a5⟩ := PT_spec (g := g) (N := N) (L := L) (hs c hc)
  obtain ⟨b1, b2, b3, b4, b5⟩ := PT_spec (g := g) (N := N) (L := L') hc
  generalize PT g N L c = x at *
  generalize PT g N L' c = y at *
  have e1 := a2 y (hN y (hs y b1)) (hs y b1)
  have e2 := b2 x (hN x a1) hb
  by_cases hx : x = c
  · by_cases hy : y = c
    · rw [hx, hy]
    · have := b4 hy
      rw [hx] at e1
      omega
  · have h4 := a4 hx
    by_cases hy : y = c
    · rw [hy] at e2; omega
    · by_cases q1 : x < y
      · have := b5 hy x q1 hb; omega
      · by_cases q2 : y < x
        · have := a5 hx y q2 (hs y b1); omega
        · omega
theorem it_in {g : Nat → Nat → Nat} {N : Nat} {L : Nat → Bool} {a : Nat} (ha : L a = true) : ∀ n, L (it (PT g N L) n a) = true := by
  intro n
  induction n with
  | zero => exact ha
  | succ n ih => exact (PT_spec ih).1
theorem stab {g : Nat → Nat → Nat} {N : Nat} {L L' : Nat → Bool} {a : Nat} (hN : ∀ x, L x = true → x < N) (hs : ∀ x, L' x = true → L x = true) (h : ∀ n, L' (it (PT g N L) n a) = true) : ∀ n, it (PT g N L') n a = it (PT g N L) n a := by
  intro n
  induction n with
  | zero => rfl
  | succ n ih => rw [it_S, it_S, ih, PT_iia hN hs (h n) (h (n + 1))]
/-- a ring among those left -/
def Cyc (g : Nat → Nat → Nat) (N : Nat) (L : Nat → Bool) (a : Nat) (C : Nat → Bool) : Prop := L a = true ∧ (∃ m, 1 ≤ m ∧ it (PT g N L) m a = a) ∧ ∀ x, C x = true ↔ orb (PT g N L) a x
def Out (g : Nat → Nat → Nat) (N : Nat) : Nat → (Nat → Bool) → (Nat → Nat) → (Nat → Nat) → Prop
  | 0, L, _, _ => ∀ x, L x = false
  | n + 1, L, G, K => (∀ x, L x = false) ∨ ∃ a C, Cyc g N L a C ∧ (∀ x, C x = true → G x = PT g N L x ∧ per (PT g N L) x (K x)) ∧ Out g N n (fun x => L x && !C x) G K
theorem Cyc_in {g : Nat → Nat → Nat} {N : Nat} {L C : Nat → Bool} {a x : Nat} (h : Cyc g N L a C) (hx : C x = true) : L x = true := by
  obtain ⟨n, e⟩ := (h.2.2 x).mp hx
  rw [← e]
  exact it_in h.1 n
theorem Cyc_to {g : Nat → Nat → Nat} {N : Nat} {L L' C : Nat → Bool} {a : Nat} (hN : ∀ x, L x = true → x < N) (hs : ∀ x, L' x = true → L x = true) (h : Cyc g N L a C) (hC : ∀ x, C x = true → L' x = true) : Cyc g N L' a C ∧ ∀ x, C x = true → PT g N L' x = PT g N L x ∧ ∀ k, per (PT g N L') x k ↔ per (PT g N L) x k := by
  obtain ⟨h1, ⟨m, m1, m2⟩, h3⟩ := h
  have st : ∀ x, C x = true → ∀ n, it (PT g N L') n x = it (PT g N L) n x := fun x hx => stab hN hs (fun n => hC _ ((h3 _).mpr (orb_it ((h3 x).mp hx) n)))
  have ca : C a = true := (h3 a).mpr orb_0
  have sa := st a ca
  refine ⟨⟨hC a ca, ⟨m, m1, by rw [sa]; exact m2⟩, fun x => ?_⟩, fun x hx => ⟨?_, fun k => ?_⟩⟩
  · rw [h3]
    constructor
    · rintro ⟨n, e⟩; exact ⟨n, by rw [sa]; exact e⟩
    · rintro ⟨n, e⟩; exact ⟨n, by rw [← sa]; exact e⟩
  · exact st x hx 1
  · have sx := st x hx
    unfold per
    constructor
    · rintro ⟨p1, p2, p3⟩
      exact ⟨p1, by rw [← sx]; exact p2, fun j j1 j2 => by rw [← sx]; exact p3 j j1 j2⟩
    · rintro ⟨p1, p2, p3⟩
      exact ⟨p1, by rw [sx]; exact p2, fun j j1 j2 => by rw [sx]; exact p3 j j1 j2⟩
theorem Cyc_eq {g : Nat → Nat → Nat} {N : Nat} {L C C' : Nat → Bool} {a a' x : Nat} (h : Cyc g N L a C) (h' : Cyc g N L a' C') (hx : C x = true) (hx' : C' x = true) : C = C' := by
  obtain ⟨h1, ⟨m, m1, m2⟩, h3⟩ := h
  obtain ⟨h1', ⟨m', m1', m2'⟩, h3'⟩ := h'
  have o1 := (h3 x).mp hx
  have o2 := (h3' x).mp hx'
  have aa : orb (PT g N L) a a' := orb_tr o1 (orb_back m1' m2' o2)
  have aa' : orb (PT g N L) a' a := orb_tr o2 (orb_back m1 m2 o1)
  funext y
  apply bool_iff
  rw [h3, h3']
  exact ⟨fun q => orb_tr aa' q, fun q => orb_tr aa q⟩
theorem sub_t {L C : Nat → Bool} {x : Nat} : (L x && !C x) = true ↔ L x = true ∧ ¬ C x = true := by
  cases L x <;> cases C x <;> simp
theorem Out_ex {g : Nat → Nat → Nat} {N : Nat} {G K : Nat → Nat} : ∀ (n : Nat) (L : Nat → Bool) (a : Nat) (C : Nat → Bool), (∀ x, L x = true → x < N) → Cyc g N L a C → Out g N (n + 1) L G K → (∀ x, C x = true → G x = PT g N L x ∧ per (PT g N L) x (K x)) ∧ Out g N n (fun x => L x && !C x) G K := by
  intro n
  induction n with
  | zero =>
    intro L a C hN hC h
    rcases h with h | ⟨a0, C0, c0, q0, o0⟩
    · have := h a
      rw [hC.1] at this
      exact absurd this (by decide)
    · have ca : C a = true := (hC.2.2 a).mpr orb_0
      have h1 : (L a && !C0 a) = false := o0 a
      have h2 : C0 a = true := by
        have hL := hC.1
        cases hh : C0 a with
        | true => rfl
        | false => rw [hL, hh] at h1; exact absurd h1 (by decide)
      have e := Cyc_eq c0 hC h2 ca
      subst e
      exact ⟨q0, o0⟩
  | succ n ih =>
    intro L a C hN hC h
    rcases h with h | ⟨a0, C0, c0, q0, o0⟩
    · have := h a
      rw [hC.1] at this
      exact absurd this (by decide)
    · by_cases hx : ∃ x, C0 x = true ∧ C x = true
      · obtain ⟨x, x1, x2⟩ := hx
        have e := Cyc_eq c0 hC x1 x2
        subst e
        exact ⟨q0, o0⟩
      · have hs0 : ∀ x, (L x && !C0 x) = true → L x = true := fun x q => (sub_t.mp q).1
        have hs1 : ∀ x, (L x && !C x) = true → L x = true := fun x q => (sub_t.mp q).1
        obtain ⟨t1, t2⟩ := Cyc_to (L' := fun x => L x && !C0 x) hN hs0 hC (fun x q => sub_t.mpr ⟨Cyc_in hC q, fun z => hx ⟨x, z, q⟩⟩)
        obtain ⟨u1, u2⟩ := Cyc_to (L' := fun x => L x && !C x) hN hs1 c0 (fun x q => sub_t.mpr ⟨Cyc_in c0 q, fun z => hx ⟨x, q, z⟩⟩)
        obtain ⟨i1, i2⟩ := ih (fun x => L x && !C0 x) a C (fun x q => hN x (hs0 x q)) t1 o0
        refine ⟨fun x q => ?_, Or.inr ⟨a0, C0, u1, fun x q => ?_, ?_⟩⟩
        · obtain ⟨v1, v2⟩ := i1 x q
          exact ⟨v1.trans (t2 x q).1, ((t2 x q).2 _).mp v2⟩
        · obtain ⟨v1, v2⟩ := q0 x q
          exact ⟨v1.trans (u2 x q).1.symm, ((u2 x q).2 _).mpr v2⟩
        · have e : (fun x => (L x && !C x) && !C0 x) = (fun x => (L x && !C0 x) && !C x) := by
            funext x
            cases L x <;> cases C x <;> cases C0 x <;> rfl
          show Out g N n (fun x => (L x && !C x) && !C0 x) G K
          rw [e]
          exact i2
theorem Out_up {g : Nat → Nat → Nat} {N : Nat} {G K : Nat → Nat} : ∀ (n : Nat) (L : Nat → Bool), Out g N n L G K → Out g N (n + 1) L G K := by
  intro n
  induction n with
  | zero => intro L h; exact Or.inl h
  | succ n ih =>
    intro L h
    rcases h with h | ⟨a, C, c, q, o⟩
    · exact Or.inl h
    · exact Or.inr ⟨a, C, c, q, ih _ o⟩
theorem Out_un {g : Nat → Nat → Nat} {N : Nat} {G K G' K' : Nat → Nat} : ∀ (n m : Nat) (L : Nat → Bool), (∀ x, L x = true → x < N) → Out g N n L G K → Out g N m L G' K' → ∀ x, L x = true → G x = G' x ∧ K x = K' x := by
  intro n
  induction n with
  | zero =>
    intro m L hN h h' x hx
    rw [h x] at hx
    exact absurd hx (by decide)
  | succ n ih =>
    intro m L hN h h' x hx
    rcases h with h | ⟨a, C, c, q, o⟩
    · rw [h x] at hx
      exact absurd hx (by decide)
    · obtain ⟨e1, e2⟩ := Out_ex m L a C hN c (Out_up m L h')
      by_cases hC : C x = true
      · obtain ⟨a1, a2⟩ := q x hC
        obtain ⟨b1, b2⟩ := e1 x hC
        exact ⟨a1.trans b1.symm, per_un a2 b2⟩
      · exact ih m (fun x => L x && !C x) (fun x z => hN x (sub_t.mp z).1) o e2 x (sub_t.mpr ⟨hx, hC⟩)
theorem Out_congr {g : Nat → Nat → Nat} {N : Nat} {G K G' K' : Nat → Nat} : ∀ (n : Nat) (L : Nat → Bool), (∀ x, L x = true → G' x = G x ∧ K' x = K x) → Out g N n L G K → Out g N n L G' K' := by
  intro n
  induction n with
  | zero => intro L _ h; exact h
  | succ n ih =>
    intro L e h
    rcases h with h | ⟨a, C, c, q, o⟩
    · exact Or.inl h
    · refine Or.inr ⟨a, C, c, fun x hx => ?_, ih _ (fun x hx => e x (sub_t.mp hx).1) o⟩
      obtain ⟨e1, e2⟩ := e x (Cyc_in c hx)
      rw [e1, e2]
      exact q x hx
/-- all rings at once -/
theorem Out_many {g : Nat → Nat → Nat} {N : Nat} {G K : Nat → Nat} : ∀ (k n : Nat) (L U : Nat → Bool), (∀ x, L x = true → x < N) → cnt U N ≤ k → (∀ x, U x = true → L x = true) → (∀ x, U x = true → U (PT g N L x) = true) → (∀ x, U x = true → ∃ m, 1 ≤ m ∧ it (PT g N L) m x = x) → (∀ x, U x = true → G x = PT g N L x ∧ per (PT g N L) x (K x)) → Out g N n (fun x => L x && !U x) G K → Out g N (n + k) L G K := by
  intro k
  induction k with
  | zero =>
    intro n L U hN hk hs hcl hcy hq ho
    have hU : ∀ x, ¬ U x = true := fun x hx => by
      have := cnt_set (p := fun _ => false) (q := fun y => decide (y = x)) (c := x) rfl (decide_eq_true rfl) (N := N) (fun j _ hj => decide_eq_false hj) (hN x (hs x hx))
      have h2 := (cnt_mono (p := fun y => decide (y = x)) (q := U) (N := N) (fun c _ hc => by rw [of_decide_eq_true hc]; exact hx)).1
      omega
    have e : (fun x => L x && !U x) = L := by
      funext x
      rw [Bool.eq_false_iff.mpr (hU x)]
      simp
    rw [e] at ho
    exact ho
  | succ k ih =>
    intro n L U hN hk hs hcl hcy hq ho
    by_cases hU : ∃ u, U u = true
    · obtain ⟨u, hu⟩ := hU
      obtain ⟨m, m1, m2⟩ := hcy u hu
      have hCx : ∀ x, @decide (orb (PT g N L) u x) (Classical.propDecidable _) = true ↔ orb (PT g N L) u x := fun x => by
        exact ⟨fun q => @of_decide_eq_true _ (Classical.propDecidable _) q, fun q => @decide_eq_true _ (Classical.propDecidable _) q⟩
      generalize hCC : (fun x => @decide (orb (PT g N L) u x) (Classical.propDecidable _)) = C
      have hC : ∀ x, C x = true ↔ orb (PT g N L) u x := fun x => by rw [← hCC]; exact hCx x
      have cyc : Cyc g N L u C := ⟨hs u hu, ⟨m, m1, m2⟩, hC⟩
      have hCU : ∀ x, C x = true → U x = true := fun x hx => by
        obtain ⟨j, e⟩ := (hC x).mp hx
        rw [← e]
        have : ∀ j, U (it (PT g N L) j u) = true := by
          intro j
          induction j with
          | zero => exact hu
          | succ j ihj => exact hcl _ ihj
        exact this j
      have hs1 : ∀ x, (L x && !C x) = true → L x = true := fun x q => (sub_t.mp q).1
      have hout : ∀ x, U x = true → ¬ C x = true → ∀ j, U (it (PT g N L) j x) = true ∧ ¬ C (it (PT g N L) j x) = true := fun x h1 h2 j => by
        have hUj : ∀ j, U (it (PT g N L) j x) = true := by
          intro j
          induction j with
          | zero => exact h1
          | succ j ihj => exact hcl _ ihj
        refine ⟨hUj j, fun z => h2 ?_⟩
        obtain ⟨p, p1, p2⟩ := hcy x h1
        obtain ⟨k', e⟩ := it_back p1 p2 j
        rw [hC] at z ⊢
        rw [← e]
        exact orb_it z k'
      have st : ∀ x, U x = true → ¬ C x = true → ∀ j, it (PT g N (fun x => L x && !C x)) j x = it (PT g N L) j x := fun x h1 h2 => stab hN hs1 (fun j => sub_t.mpr ⟨hs _ (hout x h1 h2 j).1, (hout x h1 h2 j).2⟩)
      have fin := ih n (fun x => L x && !C x) (fun x => U x && !C x) (fun x q => hN x (hs1 x q)) (by
        obtain ⟨c1, c2⟩ := cnt_mono (p := fun x => U x && !C x) (q := U) (N := N) (fun c _ q => (sub_t.mp q).1)
        by_cases z : cnt (fun x => U x && !C x) N = cnt U N
        · have := c2 z u (hN u (hs u hu))
          rw [hu, (hC u).mpr orb_0] at this
          exact absurd this (by decide)
        · omega) (fun x q => sub_t.mpr ⟨hs x (sub_t.mp q).1, (sub_t.mp q).2⟩) (fun x q => by
        have h1 := (sub_t.mp q).1
        have h2 := (sub_t.mp q).2
        have e : PT g N (fun x => L x && !C x) x = PT g N L x := st x h1 h2 1
        rw [e]
        have := hout x h1 h2 1
        exact sub_t.mpr this) (fun x q => by
        have h1 := (sub_t.mp q).1
        have h2 := (sub_t.mp q).2
        obtain ⟨p, p1, p2⟩ := hcy x h1
        exact ⟨p, p1, by rw [st x h1 h2]; exact p2⟩) (fun x q => by
        have h1 := (sub_t.mp q).1
        have h2 := (sub_t.mp q).2
        obtain ⟨q1, q2, q3, q4⟩ := hq x h1
        exact ⟨q1.trans (st x h1 h2 1).symm, q2, by rw [st x h1 h2]; exact q3, fun j j1 j2 => by rw [st x h1 h2]; exact q4 j j1 j2⟩) (by
        have e : (fun x => (L x && !C x) && !(U x && !C x)) = (fun x => L x && !U x) := by
          funext x
          by_cases z : C x = true
          · rw [z, hCU x z]; cases L x <;> rfl
          · rw [Bool.eq_false_iff.mpr z]; cases L x <;> cases U x <;> rfl
        show Out g N n (fun x => (L x && !C x) && !(U x && !C x)) G K
        rw [e]
        exact ho)
      exact Or.inr ⟨u, C, cyc, fun x hx => hq x (hCU x hx), fin⟩
    · have e : (fun x => L x && !U x) = L := by
        funext x
        rw [Bool.eq_false_iff.mpr (fun z => hU ⟨x, z⟩)]
        simp
      rw [e] at ho
      have up : ∀ k, Out g N (n + k) L G K := by
        intro k
        induction k with
        | zero => exact ho
        | succ k ihk => exact Out_up _ _ ihk
      exact up (k + 1)

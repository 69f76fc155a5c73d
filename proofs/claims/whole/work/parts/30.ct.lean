/-! THE START: the constructors run as traces; cell i of the world lies at S0 + i, in the order of making -/
abbrev ct_E : Type := (Nat × Nat × List (Nat × Value)) ⊕ (Nat × List Value)
abbrev ct_W : Type := List ct_E
def ct_lk (us : List (Nat × Value)) (i : Nat) : Value := match us with
  | [] => .null
  | (j, v) :: r => if i = j then v else ct_lk r i
def ct_lI (us : List (Nat × Value)) (i : Nat) : Int32 := match ct_lk us i with
  | .int x => x
  | _ => 0
def ct_lR (G : am_G) (us : List (Nat × Value)) (i : Nat) : Option Nat := match ct_lk us i with
  | .ref o => some (G.1 o)
  | _ => none
def ct_e (G : am_G) (e : ct_E) : va_E := match e with
  | .inl (k, n, us) => (match k with
    | 20 => .inl (G.2.1 0, n, .inl (ct_lI us))
    | 21 => .inl (G.2.1 1, n, .inl (ct_lI us))
    | 22 => .inl (G.2.1 2, n, .inl (ct_lI us))
    | 23 => .inl (G.2.1 3, n, .inr (.inl (fun i => (ct_lI us i).toInt64)))
    | 24 => .inl (G.2.1 4, n, .inr (.inr (.inr (.inr (ct_lR G us)))))
    | _ => .inl (G.2.1 5, n, .inr (.inr (.inr (.inr (ct_lR G us))))))
  | .inr (k, fs) => .inr (k, fs.map (am_v G))
def ct_ws (G : am_G) (w : ct_W) : va_W := (List.range w.length).map (fun i => (G.2.2.2.2 + i, ct_e G (w.getD i (.inr (0, [])))))
theorem ct_ws_len (G : am_G) (w : ct_W) : (ct_ws G w).length = w.length := by simp [ct_ws]
theorem ct_ws_get (G : am_G) (w : ct_W) (i : Nat) : (ct_ws G w)[i]? = (w[i]?).map (fun e => (G.2.2.2.2 + i, ct_e G e)) := by
  unfold ct_ws
  rw [List.getElem?_map]
  by_cases hi : i < w.length
  · rw [List.getElem?_range hi, List.getElem?_eq_getElem hi]
    simp [List.getD_eq_getElem?_getD, List.getElem?_eq_getElem hi]
  · rw [List.getElem?_eq_none (by simpa using hi), List.getElem?_eq_none (by simpa using hi)]
    rfl
theorem ct_ws_at (G : am_G) {w : ct_W} {i : Nat} {e : ct_E} (h : w[i]? = some e) : (ct_ws G w)[i]? = some (G.2.2.2.2 + i, ct_e G e) := by rw [ct_ws_get, h]; rfl
theorem ct_ws_app (G : am_G) (w : ct_W) (e : ct_E) : ct_ws G (w ++ [e]) = ct_ws G w ++ [(G.2.2.2.2 + w.length, ct_e G e)] := by
  apply List.ext_getElem?
  intro i
  rw [ct_ws_get]
  rcases Nat.lt_trichotomy i w.length with hi | hi | hi
  · rw [List.getElem?_append_left hi, List.getElem?_append_left (by rw [ct_ws_len]; exact hi), ct_ws_get]
  · subst hi
    rw [List.getElem?_append_right (Nat.le_refl _), List.getElem?_append_right (by rw [ct_ws_len]; exact Nat.le_refl _), ct_ws_len, Nat.sub_self]
    rfl
  · rw [List.getElem?_eq_none (by simp; omega), List.getElem?_eq_none (by simp [ct_ws_len]; omega)]
    rfl
theorem ct_ws_set (G : am_G) {w : ct_W} {i : Nat} (e : ct_E) (h : i < w.length) : ct_ws G (w.set i e) = (ct_ws G w).set i (G.2.2.2.2 + i, ct_e G e) := by
  apply List.ext_getElem?
  intro j
  rw [ct_ws_get]
  by_cases hj : j = i
  · subst hj
    rw [List.getElem?_set_self h, List.getElem?_set_self (by rw [ct_ws_len]; exact h)]
    rfl
  · rw [List.getElem?_set_ne (fun q => hj q.symm), List.getElem?_set_ne (fun q => hj q.symm), ct_ws_get]
theorem ct_D (G : am_G) (w : ct_W) : va_D (am_A G) (ct_ws G w) := by
  have key : ∀ (i : Nat) (p : Nat × va_E), (ct_ws G w)[i]? = some p → p.1 = G.2.2.2.2 + i := fun i p h => by
    rw [ct_ws_get] at h
    cases hw : w[i]? with
    | none => rw [hw] at h; cases h
    | some e => rw [hw] at h; cases h; rfl
  refine ⟨fun i j p q hp hq e => ?_, fun k q hq => ?_⟩
  · have h1 := key i p hp
    have h2 := key j q hq
    omega
  · show G.2.2.2.2 ≤ q.1
    rw [key k q hq]
    exact Nat.le_add_right _ _
/-- the heap while it is built -/
def ct_B (G : am_G) (w : ct_W) (s : State) (H : Heap) (locs : List Loc) : Prop := va_P G.2.2.1 vwCl (ct_ws G w) H ∧ H.size = G.2.2.2.2 + w.length ∧ va_S (am_A G) s.heap H locs ∧ G.2.2.2.2 ≤ s.heap.size
/-- what is known of the tables while it is built -/
def ct_K (G : am_G) (U : State) : Prop := va_K G.2.2.1 vwCl (am_tys G) U ∧ (∀ w ∈ am_NW, va_Nw w U) ∧ va_AOA .int U ∧ va_AO "ShutFists$State" U ∧ ∀ o, o < 390 → G.1 o = G.2.2.2.2 + o
/-! the traces -/
abbrev ct_F : Type := Nat → List Value → ct_W → Option ct_W
def ct_df (k : Nat) : List Value := (am_fk k).map (fun b => if b then .null else .int 0)
abbrev ct_S : Type := List Value × List Value × ct_W
/-- what a putfield of the kind z may lay down -/
def ct_vo (v : Value) (z : Int32) : Bool := match v with
  | .ref q => decide (z = 0) && decide (q < 390)
  | .int x => decide (z = 1) || (decide (z = 2) && decide (x = 0))
  | _ => false
def ct_st (Φ : ct_F) (op a b : Nat) (z : Int32) (ls st : List Value) (w : ct_W) : Option ct_S := match op with
  | 0 => some (ls, .int z :: st, w)
  | 1 => (match am_la ls a with | some o => some (ls, .ref o :: st, w) | none => none)
  | 2 => (match am_li ls a with | some x => some (ls, .int x :: st, w) | none => none)
  | 3 => (match st with | .int x :: r => if a < ls.length then some (ls.set a (.int x), r, w) else none | _ => none)
  | 4 => (match am_li ls a with | some x => some (ls.set a (.int (x + z)), st, w) | none => none)
  | 5 => (match st with | .ref o :: r => some (ls, .ref o :: .ref o :: r, w) | _ => none)
  | 6 => if w.length < 390 then some (ls, .ref w.length :: st, w ++ [.inr (a, ct_df a)]) else none
  | 7 => (match st with | .int n :: r => if ¬ n < 0 ∧ n.toNatClampNeg ≤ 5000 ∧ w.length < 390 then some (ls, .ref w.length :: r, w ++ [.inl (a, n.toNatClampNeg, [])]) else none | _ => none)
  | 8 => (match st with | .int n :: r => if ¬ n < 0 ∧ n.toNatClampNeg ≤ 12 ∧ w.length < 390 then some (ls, .ref w.length :: r, w ++ [.inl (25, n.toNatClampNeg, [])]) else none | _ => none)
  | 9 => (match st with | .int k :: .int n :: r => if ¬ n < 0 ∧ ¬ k < 0 ∧ n.toNatClampNeg ≤ 9 ∧ k.toNatClampNeg ≤ 9 ∧ w.length + 10 < 390 then some (ls, .ref w.length :: r, w ++ ([.inl (24, n.toNatClampNeg, (List.range n.toNatClampNeg).map (fun i => (i, Value.ref (w.length + 1 + i))))] ++ List.replicate n.toNatClampNeg (.inl (20, k.toNatClampNeg, [])))) else none | _ => none)
  | 10 => (match st with | v :: .ref o :: r => (match w[o]? with | some (.inr (b', fs)) => if b' = b ∧ a < fs.length ∧ o < 390 ∧ ct_vo v z = true then some (ls, r, w.set o (.inr (b, fs.set a v))) else none | _ => none) | _ => none)
  | 11 => (match st with | .ref o :: r => (match w[o]? with | some (.inr (b', fs)) => if b' = b ∧ o < 390 then (match fs[a]? with | some v => some (ls, v :: r, w) | none => none) else none | _ => none) | _ => none)
  | 12 => (match st with | .int x :: .int i :: .ref o :: r => (match w[o]? with | some (.inl (20, n, us)) => if am_in i n = true ∧ o < 390 then some (ls, r, w.set o (.inl (20, n, (i.toNatClampNeg, .int x) :: us))) else none | _ => none) | _ => none)
  | 13 => (match st with | .ref v :: .int i :: .ref o :: r => (match w[o]? with | some (.inl (25, n, us)) => (match w[v]? with | some (.inr (7, _)) => if am_in i n = true ∧ o < 390 ∧ v < 390 then some (ls, r, w.set o (.inl (25, n, (i.toNatClampNeg, .ref v) :: us))) else none | _ => none) | _ => none) | _ => none)
  | 14 => (match st with | .int i :: .ref o :: r => (match w[o]? with | some (.inl (24, n, us)) => (match ct_lk us i.toNatClampNeg with | .ref q => if am_in i n = true ∧ o < 390 then some (ls, .ref q :: r, w) else none | _ => none) | _ => none) | _ => none)
  | 15 => (match st with | .ref o :: r => some (ls, r, w) | _ => none)
  | 16 => (match st with | .ref o :: r => if b = 0 ∧ am_cs r ≤ 8 then (Φ a [.ref o] w).map (fun w' => (ls, r, w')) else (match r with | .ref o2 :: r => if b = 1 ∧ am_cs r ≤ 8 then (Φ a [.ref o2, .ref o] w).map (fun w' => (ls, r, w')) else none | _ => none) | _ => none)
  | 17 => (match st with | .int y :: .int x :: r => if am_cs r ≤ 8 then some (ls, .int (7 + 4 * x + y) :: r, w) else none | _ => none)
  | 18 => (match st with | .int y :: .int x :: r => if (b = 1 ∧ y ≤ x) ∨ (b = 0 ∧ ¬ y ≤ x) then some (ls, r, w) else none | _ => none)
  | 19 => (match st with | .int y :: .int x :: r => if (b = 1 ∧ y < x) ∨ (b = 0 ∧ ¬ y < x) then some (ls, r, w) else none | _ => none)
  | 20 => some (ls, st, w)
  | 21 => (match st with | .ref o :: r => if a < ls.length then some (ls.set a (.ref o), r, w) else none | _ => none)
  | _ => none
def ct_tr (Φ : ct_F) : List am_I → List Value → List Value → ct_W → Option ct_S
  | [], ls, st, w => some (ls, st, w)
  | (_, op, a, b, z) :: r, ls, st, w => if am_cs st ≤ 12 then (ct_st Φ op a b z ls st w).bind (fun q => ct_tr Φ r q.1 q.2.1 q.2.2) else none
/-- where a trace goes on -/
def ct_np (r : List am_I) (e : Nat) : Nat := match r with
  | [] => e
  | i :: _ => i.1

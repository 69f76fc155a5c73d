/-! THE INVARIANT of the two objects, and what a call of both is -/
/-- a knot of two as a puzzle: which moves there are, how far it is -/
def kmf (own other f : Nat) : Bool := decide (f = 0) || (decide (own % 2 ^ f = 2 ^ (f - 1)) && decide (other / 2 ^ f % 2 = 1))
def kmv (p m : Nat) : Bool := if m < 5 then kmf (p % 32) (p / 32) m else kmf (p / 32) (p % 32) (m - 5)
def kout (p : Nat) : Bool := decide (p % 32 = 0) || decide (p / 32 = 0)
def kgo (p m : Nat) : Nat := p ^^^ 2 ^ m
def klev : Nat → Nat → Bool
  | 0, p => kout p
  | n + 1, p => klev n p || (List.range 10).any (fun m => kmv p m && klev n (kgo p m))
def kdist (p : Nat) : Int32 := match (List.range 1100).find? (fun n => klev n p) with
  | some n => (Int32.ofNat n)
  | none => -1
def stOK (h : am_H) (o : Nat) (W : Nat → Int32) : Prop := ∃ N G, RelS h o W N G ∧ okT W ∧ okC W N ∧ okK W N G
def jT (hC hR : am_H) : Prop := ∃ n, n ≤ 400 ∧ hC.2 1 1 = (Int32.ofNat n) ∧ hR.2 373 9 = (Int32.ofNat n) ∧ ∀ i, i < 400 → ∃ b, b < 256 ∧ hC.2 2 i = (Int32.ofNat b) ∧ hR.2 379 i = ((Int32.ofNat b) : Int32).toInt8.toInt32
def jI (hC hR : am_H) : Prop := (hC.2 0 13 = (Int32.ofNat 0) ∧ hR.2 373 6 = (Int32.ofNat 0)) ∨ (hC.2 0 13 = (Int32.ofNat 1) ∧ hR.2 373 6 = (Int32.ofNat 1) ∧ stOK hC 47 (hR.2 375) ∧ RelL hC 349 (hR.2 375))
def jP (hC hR : am_H) : Prop := ∃ m s, m ≤ 12 ∧ s < 12 ∧ hC.2 69 2 = (Int32.ofNat m) ∧ hC.2 69 1 = (Int32.ofNat s) ∧ hR.2 373 7 = (Int32.ofNat m) ∧ ∀ i, i < m → stOK hC (71 + 22 * ((s + i) % 12)) (fun j => hR.2 378 (415 * i + j)) ∧ hR.2 378 (415 * i + 2) = hR.2 374 2
def jK (hC : am_H) : Prop := lb hC 342 ∧ (hC.2 362 2 = (Int32.ofNat 0) ∨ (hC.2 362 2 = (Int32.ofNat 1) ∧ ∀ p, p < 1024 → hC.2 363 p = kdist p))
def J2 (hC hR : am_H) : Prop := (∃ N G, Lk hC hR 3 N G) ∧ jT hC hR ∧ hC.2 0 14 = hR.2 373 14 ∧ jI hC hR ∧ jP hC hR ∧ jK hC
theorem stOK.of {h h' : am_H} {o : Nat} {W W' : Nat → Int32} (S : stOK h o W) (f : ∀ p, o ≤ p → p < o + 22 → h'.2 p = h.2 p) (g : ∀ j, j < 415 → W' j = W j) : stOK h' o W' := by
  obtain ⟨N, G, R, a, b, c⟩ := S
  have hN := R.1
  exact ⟨N, G, (R.frame f).row g, a.of (fun j h1 h2 => g j (by omega)), b.of hN (fun j h1 h2 => g j (by omega)), c.of hN (fun j h1 h2 => g j (by omega))⟩
theorem jI.of {hC hR hC' hR' : am_H} (J : jI hC hR) (f1 : hC'.2 0 13 = hC.2 0 13) (f2 : ∀ p, 47 ≤ p → p < 69 → hC'.2 p = hC.2 p) (f3 : ∀ p, 349 ≤ p → p < 354 → hC'.2 p = hC.2 p) (g1 : hR'.2 373 6 = hR.2 373 6) (g2 : hR'.2 375 = hR.2 375) : jI hC' hR' := by
  rcases J with ⟨a, b⟩ | ⟨a, b, c, e⟩
  · exact Or.inl ⟨f1.trans a, g1.trans b⟩
  · refine Or.inr ⟨f1.trans a, g1.trans b, ?_, ?_⟩
    · rw [g2]; exact c.of (fun p h1 h2 => f2 p h1 h2) (fun j _ => rfl)
    · rw [g2]; exact e.of (fun p h1 h2 => f3 p h1 (by omega)) rfl (fun j _ _ => rfl)
theorem jP.of {hC hR hC' hR' : am_H} (J : jP hC hR) (f1 : hC'.2 69 = hC.2 69) (f2 : ∀ p, 71 ≤ p → p < 335 → hC'.2 p = hC.2 p) (g1 : hR'.2 373 7 = hR.2 373 7) (g2 : hR'.2 378 = hR.2 378) (g3 : hR'.2 374 2 = hR.2 374 2) : jP hC' hR' := by
  obtain ⟨m, s, hm, hs, a, b, c, e⟩ := J
  refine ⟨m, s, hm, hs, by rw [f1]; exact a, by rw [f1]; exact b, g1.trans c, fun i hi => ?_⟩
  rw [g2, g3]
  have hmod : (s + i) % 12 < 12 := Nat.mod_lt _ (by omega)
  exact ⟨(e i hi).1.of (fun p h1 h2 => f2 p (by omega) (by omega)) (fun j _ => rfl), (e i hi).2⟩
theorem jT.of {hC hR hC' hR' : am_H} (J : jT hC hR) (f1 : hC'.2 1 1 = hC.2 1 1) (f2 : hC'.2 2 = hC.2 2) (g1 : hR'.2 373 9 = hR.2 373 9) (g2 : hR'.2 379 = hR.2 379) : jT hC' hR' := by
  obtain ⟨n, hn, a, b, c⟩ := J
  exact ⟨n, hn, f1.trans a, g1.trans b, by rw [f2, g2]; exact c⟩
theorem jK.of {hC hC' : am_H} (J : jK hC) (f1 : hC'.2 362 2 = hC.2 362 2) (f2 : hC'.2 363 = hC.2 363) (f3 : hC'.2 343 = hC.2 343) : jK hC' := by
  refine ⟨fun i hi => by show hC'.2 343 i = _ ∨ hC'.2 343 i = _; rw [f3]; exact J.1 i hi, ?_⟩
  rcases J.2 with a | ⟨a, b⟩
  · exact Or.inl (f1.trans a)
  · exact Or.inr ⟨f1.trans a, by rw [f2]; exact b⟩
theorem Lk.of {hC hR hC' hR' : am_H} {N G : Nat} (L : Lk hC hR 3 N G) (f : ∀ p, 3 ≤ p → p < 25 → hC'.2 p = hC.2 p) (f2 : ∀ p, 335 ≤ p → p < 340 → hC'.2 p = hC.2 p) (g : ∀ j, j < 1264 → hR'.2 374 j = hR.2 374 j) : Lk hC' hR' 3 N G := by
  obtain ⟨R, a, b, c, e⟩ := L
  have hN := R.1
  exact ⟨(R.frame (fun p h1 h2 => f p h1 (by omega))).row (fun j hj => g j (by omega)), a.of (fun j h1 h2 => g j (by omega)), b.of hN (fun j h1 h2 => g j (by omega)), c.of hN (fun j h1 h2 => g j (by omega)), e.of (fun p h1 h2 => f2 p h1 (by omega)) (g 2 (by omega)) (fun j h1 h2 => g j (by omega))⟩
/-- cells that don't matter changed -/
theorem J2.of {hC hR hC' hR' : am_H} (J : J2 hC hR) (f0 : ∀ p, p < 363 → (p < 25 ∨ 47 ≤ p) → p ≠ 340 → p ≠ 341 → (p < 342 ∨ 349 ≤ p) → p < 356 → p ≠ 1 → hC'.2 p = hC.2 p) (f1 : hC'.2 1 1 = hC.2 1 1) (f2 : hC'.2 362 2 = hC.2 362 2) (f3 : hC'.2 363 = hC.2 363) (f4 : hC'.2 343 = hC.2 343) (g0 : ∀ j, j < 1264 → hR'.2 374 j = hR.2 374 j) (g1 : hR'.2 375 = hR.2 375) (g2 : hR'.2 378 = hR.2 378) (g3 : hR'.2 379 = hR.2 379) (g4 : ∀ i, i = 6 ∨ i = 7 ∨ i = 9 ∨ i = 14 → hR'.2 373 i = hR.2 373 i) : J2 hC' hR' := by
  obtain ⟨⟨N, G, L⟩, a, b, c, e, k⟩ := J
  refine ⟨⟨N, G, L.of (fun p h1 h2 => f0 p (by omega) (by omega) (by omega) (by omega) (by omega) (by omega) (by omega)) (fun p h1 h2 => f0 p (by omega) (by omega) (by omega) (by omega) (by omega) (by omega) (by omega)) g0⟩, a.of f1 (f0 2 (by omega) (by omega) (by omega) (by omega) (by omega) (by omega) (by omega)) (g4 9 (by omega)) g3, ?_, c.of (by rw [f0 0 (by omega) (by omega) (by omega) (by omega) (by omega) (by omega) (by omega)]) (fun p h1 h2 => f0 p (by omega) (by omega) (by omega) (by omega) (by omega) (by omega) (by omega)) (fun p h1 h2 => f0 p (by omega) (by omega) (by omega) (by omega) (by omega) (by omega) (by omega)) (g4 6 (by omega)) g1, e.of (f0 69 (by omega) (by omega) (by omega) (by omega) (by omega) (by omega) (by omega)) (fun p h1 h2 => f0 p (by omega) (by omega) (by omega) (by omega) (by omega) (by omega) (by omega)) (g4 7 (by omega)) g2 (g0 2 (by omega)), k.of f2 f3 f4⟩
  rw [f0 0 (by omega) (by omega) (by omega) (by omega) (by omega) (by omega) (by omega), g4 14 (by omega)]
  exact b
/-- both answer alike; nothing is thrown -/
def Ans (qF : Nat) (aF : List Value) (qR : Nat) (aR : List Value) : Prop := ∀ (d : Nat) (hC hR : am_H), J2 hC hR → ∃ v hC' hR', J2 hC' hR' ∧ hC'.1 = hC.1 ∧ hR'.1 = hR.1 ∧ hR'.2 373 0 = (Int32.ofNat 0) ∧ am_cl (d + 120) qF aF hC = some (.inl (some (v)), hC') ∧ am_cl (d + 120) qR aR hR = some (.inl (some (v)), hR')
/-- they answer alike, or the class throws e and the reference tells t -/
def Two (qF : Nat) (aF : List Value) (qR : Nat) (aR : List Value) (tab : List (Nat × Int32)) : Prop := ∀ (d : Nat) (hC hR : am_H), J2 hC hR → ∃ hC' hR', J2 hC' hR' ∧ hR'.1 = hR.1 ∧ ((∃ v, hC'.1 = hC.1 ∧ hR'.2 373 0 = (Int32.ofNat 0) ∧ am_cl (d + 120) qF aF hC = some (.inl (some (v)), hC') ∧ am_cl (d + 120) qR aR hR = some (.inl (some (v)), hR')) ∨ ∃ e t v, hC'.1 = hC.1 + 1 ∧ am_cf tab e = some t ∧ hR'.2 373 0 = t ∧ am_cl (d + 120) qF aF hC = some (.inr e, hC') ∧ am_cl (d + 120) qR aR hR = some (.inl (some (v)), hR'))
theorem Ans.two {qF qR : Nat} {aF aR : List Value} {tab : List (Nat × Int32)} (h : Ans qF aF qR aR) : Two qF aF qR aR tab := fun d hC hR J => by
  obtain ⟨v, hC', hR', j, a, b, c, e, f⟩ := h d hC hR J
  exact ⟨hC', hR', j, b, Or.inl ⟨v, a, c, e, f⟩⟩
/-- the reference tells what is thrown in place 0 of its cell -/
theorem J2.thr {hC hR : am_H} (J : J2 hC hR) (t : Int32) : J2 hC (am_up hR 373 0 t) := J.of (fun _ _ _ _ _ _ _ _ => rfl) rfl rfl rfl rfl (fun j _ => by rw [up_o (by omega)]) (by rw [up_o (by omega)]) (by rw [up_o (by omega)]) (by rw [up_o (by omega)]) (fun i hi => up_ne (by omega))
theorem J2.th {hC hR : am_H} (J : J2 hC hR) : J2 (am_th hC) hR := J

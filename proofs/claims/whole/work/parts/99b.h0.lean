/-! the start heap -/
def h00 : Nat → Nat → Int32 := (am_h0 0 (fun _ => 0)).2
theorem h0_e {L : Nat} {xs : Nat → Int32} {o : Nat} (ho : o < 391) : (am_h0 L xs).2 o = h00 o := by
  funext i
  unfold h00 am_h0
  show (if o = 391 then _ else if o = 392 then _ else _) = (if o = 391 then _ else if o = 392 then _ else _)
  rw [if_neg (by omega), if_neg (by omega), if_neg (by omega), if_neg (by omega)]
theorem h00_t : (List.range 4).all (fun k => (List.range 9).all (fun t => (decide (8 ≤ t) && decide (k < 1)) || decide (h00 (5 + k) t = h00 374 (7 + 4 * t + k)))) = true := by decide +kernel
theorem h00_c : (List.range 9).all (fun k => (List.range 8).all (fun c => decide (h00 (10 + k) c = h00 374 (43 + 9 * c + k)))) = true := by decide +kernel
theorem h00_b : (List.range 400).all (fun i => decide (h00 2 i = Int32.ofNat 0) && decide (h00 379 i = (Int32.ofNat 0).toInt8.toInt32)) = true := by decide +kernel
theorem h00_l : (List.range 12).all (fun i => decide (h00 336 i = Int32.ofNat 0) && decide (h00 343 i = Int32.ofNat 0)) = true := by decide +kernel
def rgb (x : Int32) (b : Nat) : Bool := (List.range b).any (fun n => decide (x = Int32.ofNat n))
theorem rgb_rg {x : Int32} {b : Nat} (h : rgb x b = true) : rg x b := by
  obtain ⟨n, hn, e⟩ := List.any_eq_true.mp h
  exact ⟨n, List.mem_range.mp hn, of_decide_eq_true e⟩
theorem h00_w : (List.range 8).all (fun t => rgb (h00 374 (7 + 4 * t + 0)) 10 && (rgb (h00 374 (7 + 4 * t + 1)) 10 && (rgb (h00 374 (7 + 4 * t + 2)) 10 && rgb (h00 374 (7 + 4 * t + 3)) 100))) = true := by decide +kernel
theorem h00_o : (rgb (h00 374 3) 10000 && (rgb (h00 374 4) 10 && rgb (h00 374 1) 13)) = true := by decide +kernel
theorem all_at {n : Nat} {p : Nat → Bool} (h : (List.range n).all p = true) {i : Nat} (hi : i < n) : p i = true := List.all_eq_true.mp h i (List.mem_range.mpr hi)
theorem J2_h0 (L : Nat) (xs : Nat → Int32) : J2 (am_h0 L xs) (am_h0 L xs) := by
  have e := fun o ho => h0_e (L := L) (xs := xs) (o := o) ho
  have ol := h00_o
  simp only [Bool.and_eq_true] at ol
  refine ⟨⟨0, 0, ⟨by omega, by omega, rfl, rfl, rfl, rfl, rfl, rfl, rfl, rfl, fun k t hk ht hh => ?_, fun k c hk hc => ?_, fun k r hk hr => absurd hr (by omega)⟩, ⟨?_, ?_, ?_, rfl, rfl, rfl, fun t ht => ?_⟩, fun c hc => absurd hc (by omega), ⟨fun c hc => absurd hc (by omega), fun c k hc => absurd hc (by omega), rfl⟩, fun i hi => ?_, Or.inl ⟨rfl, rfl⟩⟩, ⟨0, by omega, rfl, rfl, fun i hi => ⟨0, by omega, ?_, ?_⟩⟩, rfl, Or.inl ⟨rfl, rfl⟩, ⟨0, 0, by omega, by omega, rfl, rfl, rfl, fun i hi => absurd hi (by omega)⟩, fun i hi => ?_, Or.inl rfl⟩
  · rw [e _ (by omega), e 374 (by omega)]
    have := all_at (all_at h00_t hk) ht
    simp only [Bool.or_eq_true, Bool.and_eq_true, decide_eq_true_eq] at this
    rcases this with q | q
    · omega
    · exact q
  · rw [e _ (by omega), e 374 (by omega)]
    exact of_decide_eq_true (all_at (all_at h00_c hk) hc)
  · rw [e 374 (by omega)]; exact rgb_rg ol.1
  · rw [e 374 (by omega)]; exact rgb_rg ol.2.1
  · rw [e 374 (by omega)]; exact rgb_rg ol.2.2
  · rw [e 374 (by omega)]
    have := all_at h00_w ht
    simp only [Bool.and_eq_true] at this
    exact ⟨rgb_rg this.1, rgb_rg this.2.1, rgb_rg this.2.2.1, rgb_rg this.2.2.2⟩
  · have := all_at h00_l hi
    simp only [Bool.and_eq_true, decide_eq_true_eq] at this
    rw [e _ (by omega)]
    exact Or.inl this.1
  · have := all_at h00_b hi
    simp only [Bool.and_eq_true, decide_eq_true_eq] at this
    rw [e _ (by omega)]
    exact this.1
  · have := all_at h00_b hi
    simp only [Bool.and_eq_true, decide_eq_true_eq] at this
    rw [e _ (by omega)]
    exact this.2
  · have := all_at h00_l hi
    simp only [Bool.and_eq_true, decide_eq_true_eq] at this
    rw [e _ (by omega)]
    exact Or.inl this.2

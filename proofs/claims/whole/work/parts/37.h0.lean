/-! the heap of the abstract machine at the law's loop -/
def am_h0 (L : Nat) (xs : Nat → Int32) : am_H := (50000, fun o i => if o = 391 then xs i else if o = 392 then (if i = 0 then Int32.ofNat L else 0) else (match ctW0[o]? with
  | some (.inl (_, _, us)) => ct_lI us i
  | some (.inr (_, fs)) => (match fs[i]? with | some (.int x) => x | _ => 0)
  | none => 0))
def ct_isR (v : Value) (o : Nat) : Bool := match v with
  | .ref q => Nat.beq q o
  | _ => false
def ct_isI (v : Value) : Bool := match v with
  | .int _ => true
  | _ => false
def ct_chk (o : Nat) (e : ct_E) : Bool := match e with
  | .inl (k, n, us) => Nat.beq k (am_kd o) && Nat.beq n (am_ln o) && (if k = 24 then (List.range n).all (fun i => ct_isR (ct_lk us i) (o + 1 + i)) else if k = 25 then (List.range n).all (fun i => ct_isR (ct_lk us i) (o + 1 + 22 * i)) else (decide (k = 20) || decide (k = 21) || decide (k = 22) || decide (k = 23)))
  | .inr (k, fs) => Nat.beq k (am_kd o) && decide (k < 11) && Nat.beq fs.length (am_fk k).length && (List.range fs.length).all (fun i => if (am_fk k).getD i false = true then ct_isR (fs.getD i .null) (am_tg o i) else ct_isI (fs.getD i .null))
theorem ctW0_len : ctW0.length = 390 := by decide +kernel
theorem ct_chk_b : (List.range 390).all (fun o => ct_chk o (ctW0.getD o (.inr (0, [])))) = true := by decide +kernel
theorem ct_chk_tg : (List.range 390).all (fun o => (List.range 30).all (fun k => decide (am_tg o k < 390))) = true := by decide +kernel
theorem ct_isR_eq {v : Value} {o : Nat} (h : ct_isR v o = true) : v = .ref o := by
  unfold ct_isR at h
  split at h
  · rw [Nat.eq_of_beq_eq_true h]
  · cases h
theorem ct_isI_eq {v : Value} (h : ct_isI v = true) : ∃ x, v = .int x := by
  unfold ct_isI at h
  split at h
  · exact ⟨_, rfl⟩
  · cases h
theorem am_h0_at {L : Nat} {xs : Nat → Int32} {o : Nat} (ho : o < 390) (i : Nat) : (am_h0 L xs).2 o i = (match ctW0[o]? with
  | some (.inl (_, _, us)) => ct_lI us i
  | some (.inr (_, fs)) => (match fs[i]? with | some (.int x) => x | _ => 0)
  | none => 0) := by
  show (if o = 391 then xs i else if o = 392 then (if i = 0 then Int32.ofNat L else 0) else _) = _
  rw [if_neg (by omega), if_neg (by omega)]
theorem arrV_congr (c : ClassId) {n : Nat} {f g : Nat → Value} (h : ∀ j, j < n → f j = g j) : arrV c n f = arrV c n g := by
  unfold arrV
  congr 2
  funext j
  exact h j.val j.isLt
theorem am_h0_cell {G : am_G} {L : Nat} {xs : Nat → Int32} {H : Heap} (hG : ∀ o, o < 390 → G.1 o = G.2.2.2.2 + o) {o : Nat} {e : ct_E} (ho : o < 390) (he : ctW0[o]? = some e) (hB : va_at G.2.2.1 vwCl (G.2.2.2.2 + o, ct_e G e) H) : va_at G.2.2.1 vwCl (G.1 o, am_ce G (am_h0 L xs) o) H := by
  have hc : ct_chk o e = true := by
    have := List.all_eq_true.mp ct_chk_b o (List.mem_range.mpr ho)
    rw [List.getD_eq_getElem?_getD, he] at this
    exact this
  have htg : ∀ k, k < 30 → am_tg o k < 390 := fun k hk => of_decide_eq_true (List.all_eq_true.mp (List.all_eq_true.mp ct_chk_tg o (List.mem_range.mpr ho)) k (List.mem_range.mpr hk))
  rw [hG o ho]
  cases e with
  | inl e =>
    obtain ⟨k, n, us⟩ := e
    have hh : (am_h0 L xs).2 o = ct_lI us := by
      funext i
      rw [am_h0_at ho, he]
    unfold ct_chk at hc
    simp only [Bool.and_eq_true] at hc
    obtain ⟨⟨h1, h2⟩, h3⟩ := hc
    have h1 := Nat.eq_of_beq_eq_true h1
    have h2 := Nat.eq_of_beq_eq_true h2
    subst h2
    split at h3
    · rename_i hk
      subst hk
      rw [am_ce_24 G _ h1.symm]
      have hB : H[G.2.2.2.2 + o]? = some (arrV (G.2.1 4) (am_ln o) (fun j => va_rf (ct_lR G us j))) := hB
      show H[G.2.2.2.2 + o]? = some (arrV (G.2.1 4) (am_ln o) (fun j => va_rf (some (G.1 (o + 1 + j)))))
      rw [hB]
      refine congrArg some (arrV_congr _ fun j hj => ?_)
      have := ct_isR_eq (List.all_eq_true.mp h3 j (List.mem_range.mpr hj))
      unfold ct_lR
      rw [this]
    · split at h3
      · rename_i hk
        subst hk
        rw [am_ce_25 G _ h1.symm]
        have hB : H[G.2.2.2.2 + o]? = some (arrV (G.2.1 5) (am_ln o) (fun j => va_rf (ct_lR G us j))) := hB
        show H[G.2.2.2.2 + o]? = some (arrV (G.2.1 5) (am_ln o) (fun j => va_rf (some (G.1 (o + 1 + 22 * j)))))
        rw [hB]
        refine congrArg some (arrV_congr _ fun j hj => ?_)
        have := ct_isR_eq (List.all_eq_true.mp h3 j (List.mem_range.mpr hj))
        unfold ct_lR
        rw [this]
      · simp only [Bool.or_eq_true, decide_eq_true_eq] at h3
        rcases h3 with ((rfl | rfl) | rfl) | rfl
        · rw [am_ce_20 G _ h1.symm, hh]; exact hB
        · rw [am_ce_21 G _ h1.symm, hh]; exact hB
        · rw [am_ce_22 G _ h1.symm, hh]; exact hB
        · rw [am_ce_23 G _ h1.symm, hh]; exact hB
  | inr e =>
    obtain ⟨k, fs⟩ := e
    unfold ct_chk at hc
    simp only [Bool.and_eq_true, decide_eq_true_eq] at hc
    obtain ⟨⟨⟨h1, h2⟩, h3⟩, h4⟩ := hc
    have h1 := Nat.eq_of_beq_eq_true h1
    have h3 := Nat.eq_of_beq_eq_true h3
    rw [am_ce_ob G _ h1.symm h2]
    have hfs : am_fs G (am_h0 L xs) o = fs.map (am_v G) := by
      apply List.ext_getElem?
      intro i
      unfold am_fs
      rw [List.getElem?_map, List.getElem?_map]
      have hfn : am_fn o = fs.length := by unfold am_fn; rw [← h1, h3]
      by_cases hi : i < fs.length
      · rw [List.getElem?_range (by omega), List.getElem?_eq_getElem hi]
        show some (am_fv G (am_h0 L xs) o i) = some (am_v G fs[i])
        have := List.all_eq_true.mp h4 i (List.mem_range.mpr hi)
        rw [List.getD_eq_getElem?_getD (l := fs), List.getElem?_eq_getElem hi] at this
        unfold am_fv
        rw [← h1]
        by_cases hk : (am_fk k).getD i false = true
        · rw [if_pos hk] at this ⊢
          have hx : fs[i] = .ref (am_tg o i) := ct_isR_eq this
          rw [hx]
          rfl
        · rw [if_neg hk] at this ⊢
          obtain ⟨x, hx⟩ := ct_isI_eq this
          have hx : fs[i] = .int x := hx
          rw [hx, am_h0_at ho, he]
          show some (Value.int (match fs[i]? with | some (.int x) => x | _ => 0)) = _
          rw [List.getElem?_eq_getElem hi, hx]
          rfl
      · rw [List.getElem?_eq_none (by rw [List.length_range]; omega), List.getElem?_eq_none (by omega)]
        rfl
    rw [hfs]
    exact hB
theorem am_h0_P {G : am_G} {L : Nat} {xs : Nat → Int32} {H : Heap} (hG : ∀ o, o < 390 → G.1 o = G.2.2.2.2 + o) (hB : va_P G.2.2.1 vwCl (ct_ws G ctW0) H) : va_P G.2.2.1 vwCl (am_ws G (am_h0 L xs)) H := by
  intro k q hq
  unfold am_ws at hq
  rw [List.getElem?_map] at hq
  obtain ⟨i, hi, rfl⟩ := Option.map_eq_some_iff.mp hq
  obtain ⟨h1, h2⟩ := List.getElem?_eq_some_iff.mp hi
  rw [List.getElem_range] at h2
  subst h2
  have hk : k < 390 := by rw [List.length_range] at h1; exact h1
  have hlt : k < ctW0.length := by rw [ctW0_len]; exact hk
  have he : ctW0[k]? = some ctW0[k] := List.getElem?_eq_getElem hlt
  exact am_h0_cell hG hk he (hB k _ (ct_ws_at G he))
theorem am_h0_D {G : am_G} {h : am_H} (hG : ∀ o, o < 390 → G.1 o = G.2.2.2.2 + o) : va_D (am_A G) (am_ws G h) := by
  have key : ∀ (i : Nat) (p : Nat × va_E), (am_ws G h)[i]? = some p → p.1 = G.2.2.2.2 + i := fun i p hp => by
    have hl := (List.getElem?_eq_some_iff.mp hp).1
    have hi : i < am_N := by unfold am_ws at hl; simpa using hl
    rw [am_ws_at G h hi] at hp
    cases hp
    exact hG i hi
  refine ⟨fun i j p q hp hq e => ?_, fun k q hq => ?_⟩
  · have h1 := key i p hp
    have h2 := key j q hq
    omega
  · show G.2.2.2.2 ≤ q.1
    rw [key k q hq]
    exact Nat.le_add_right _ _

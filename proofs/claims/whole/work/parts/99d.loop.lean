/-! the law's loop -/
theorem fm_c {P : Int32 × Nat → Prop} {x : Int32 × Nat} {l : List (Int32 × Nat)} (a : P x) (b : ∀ y ∈ l, P y) : ∀ y ∈ x :: l, P y := List.forall_mem_cons.mpr ⟨a, b⟩
theorem sf_all {P : Nat → Prop} {d : Nat} {x : Int32} (hd : P d) : ∀ l : List (Int32 × Nat), (∀ p ∈ l, P p.2) → P (am_sf l d x)
  | [], _ => hd
  | (v, t) :: r, h => by
    unfold am_sf
    split
    · exact h (v, t) (List.mem_cons_self ..)
    · exact sf_all hd r (fun p hp => h p (List.mem_cons_of_mem _ hp))
theorem cs_273 {i : Nat} {h : am_H} (K : J2 h h) (d : Nat) : LawStep d 273 i h := fun x5 x6 => ⟨h, x5, x6, rfl, K, rfl, rfl, by omega⟩
theorem cs_all {i L : Nat} {h : am_H} (hi : i + 6 ≤ L) (hL : L ≤ 3072) (el : h.2 392 0 = (Int32.ofNat L)) (K : J2 h h) (d : Nat) : ∀ p ∈ am_swt 10, LawStep d p.2 i h :=
  (fm_c (cs_3 hi hL el K d) (fm_c (cs_5 hi hL el K d) (fm_c (cs_7 hi hL el K d) (fm_c (cs_13 hi hL el K d) (fm_c (cs_19 hi hL el K d) (fm_c (cs_21 hi hL el K d) (fm_c (cs_27 hi hL el K d) (fm_c (cs_33 hi hL el K d) (fm_c (cs_39 hi hL el K d) (fm_c (cs_45 hi hL el K d) (fm_c (cs_51 hi hL el K d) (fm_c (cs_57 hi hL el K d) (fm_c (cs_63 hi hL el K d) (fm_c (cs_69 hi hL el K d) (fm_c (cs_75 hi hL el K d) (fm_c (cs_81 hi hL el K d) (fm_c (cs_87 hi hL el K d) (fm_c (cs_93 hi hL el K d) (fm_c (cs_99 hi hL el K d) (fm_c (cs_105 hi hL el K d) (fm_c (cs_111 hi hL el K d) (fm_c (cs_117 hi hL el K d) (fm_c (cs_123 hi hL el K d) (fm_c (cs_125 hi hL el K d) (fm_c (cs_131 hi hL el K d) (fm_c (cs_137 hi hL el K d) (fm_c (cs_139 hi hL el K d) (fm_c (cs_145 hi hL el K d) (fm_c (cs_151 hi hL el K d) (fm_c (cs_157 hi hL el K d) (fm_c (cs_166 hi hL el K d) (fm_c (cs_168 hi hL el K d) (fm_c (cs_170 hi hL el K d) (fm_c (cs_172 hi hL el K d) (fm_c (cs_184 hi hL el K d) (fm_c (cs_190 hi hL el K d) (fm_c (cs_196 hi hL el K d) (fm_c (cs_202 hi hL el K d) (fm_c (cs_204 hi hL el K d) (fm_c (cs_206 hi hL el K d) (fm_c (cs_208 hi hL el K d) (fm_c (cs_210 hi hL el K d) (fm_c (cs_212 hi hL el K d) (fm_c (cs_214 hi hL el K d) (fm_c (cs_216 hi hL el K d) (fm_c (cs_222 hi hL el K d) (fm_c (cs_234 hi hL el K d) (fm_c (cs_246 hi hL el K d) (fm_c (cs_258 hi hL el K d) (fm_c (cs_264 hi hL el K d) (fm_c (cs_266 hi hL el K d) (fm_c (cs_268 hi hL el K d) (fm_c (cs_269 hi hL el K d) (fm_c (cs_271 hi hL el K d) (List.forall_mem_nil _)))))))))))))))))))))))))))))))))))))))))))))))))))))))
theorem cs_sw {i L : Nat} {h : am_H} (hi : i + 6 ≤ L) (hL : L ≤ 3072) (el : h.2 392 0 = (Int32.ofNat L)) (K : J2 h h) (d : Nat) (x : Int32) : LawStep d (am_sf (am_swt 10) 273 x) i h := sf_all (P := fun b => LawStep d b i h) (cs_273 K d) _ (cs_all hi hL el K d)
theorem neg6 : ∀ L, L < 6 → ((Int32.ofNat L) - (Int32.ofNat 6) : Int32).toInt < 0 := by
  intro L hL
  match L, hL with
  | 0, _ => decide +kernel
  | 1, _ => decide +kernel
  | 2, _ => decide +kernel
  | 3, _ => decide +kernel
  | 4, _ => decide +kernel
  | 5, _ => decide +kernel
theorem law_loop (d : Nat) : ∀ (n i L : Nat) (h : am_H) (x5 x6 : Value), L ≤ i + n → i ≤ L + 5 → L ≤ 3072 → h.2 392 0 = (Int32.ofNat L) → J2 h h → ∃ h', h'.1 ≤ h.1 + n ∧ am_go (am_cl (d + 121)) qW_law_ 1 [.ref 391, .ref 0, .ref 373, .ref 389, .int (Int32.ofNat i), x5, x6] [] h = some (.inl (some ((Int32.ofNat 1))), h') := by
  intro n
  induction n using Nat.strongRecOn with
  | _ n ih =>
    intro i L h x5 x6 hn hi5 hL el K
    rw [ggW_law__1, el]
    by_cases hi : i + 6 ≤ L
    · rw [if_neg (by rw [pn_subc (by omega), pn_lt (by omega) (by omega)]; omega), ggW_law__2, sl_of el hL, if_pos (c_in (by omega) (by omega))]
      obtain ⟨h2, y5, y6, e, J, f1, f2, f3⟩ := cs_sw hi hL el K d ((h.2 391 ((Int32.ofNat i) : Int32).toNatClampNeg) &&& (Int32.ofNat 63)) x5 x6
      rw [e, ggW_law__273, pn_add]
      obtain ⟨h', g1, g2⟩ := ih (n - 6) (by omega) (i + 6) L h2 y5 y6 (by omega) (by omega) hL (by rw [f2]; exact el) J
      exact ⟨h', by omega, g2⟩
    · refine ⟨h, by omega, ?_⟩
      rw [if_pos ?_, ggW_law__274]
      by_cases h6 : 6 ≤ L
      · rw [pn_subc h6, pn_lt (by omega) (by omega)]
        omega
      · rw [Int32.lt_iff_toInt_lt, pn_toInt (by omega)]
        have := neg6 L (by omega)
        omega
theorem pure_ok : am_pure := by
  intro L xs hL
  obtain ⟨h', e1, e2⟩ := law_loop 0 L 0 L (am_h0 L xs) .null .null (by omega) (by omega) hL rfl (J2_h0 L xs)
  refine ⟨121, h', by omega, ?_, ?_⟩
  · have : (am_h0 L xs).1 = 50000 := rfl
    omega
  · show am_go (am_cl (0 + 121)) qW_law_ 0 [.ref 391, .ref 0, .ref 373, .ref 389, .null, .null, .null] [] (am_h0 L xs) = _
    rw [ggW_law__0]
    exact e2

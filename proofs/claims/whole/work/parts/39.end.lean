/-! THE CLAIM OUT OF ONE WALK OF THE LAW'S BODY. Your part is whole_start (and what it stands on); all else here is the same for every law, but numbers. -/
def R_law : String := "ShutFistsLaw"
def lw_P (b : Addr) (xs : List Int32) (args : Array Value) (s : State) : Prop := args = #[.ref b] ∧ s.IntsAt b xs ∧ xs.length ≤ 3072 ∧ (Jvm.Cond.and given_1 narrow_1).before args s = true
def lw_Q (_ : Array Value) (s : State) (o : Outcome) (t : State) : Prop := o = .returned (some (.int 1)) ∧ Framed s o t [] 601024 7293034
def lw_Z (below : List Frame) (a : Array Value) (s : State) : State → Prop := fun t => ∃ o, t.status = .running ∧ Ended t below o ∧ lw_Q a s o t
/-- the law's own end, with 1 on the stack, nothing written that was there before, its room as the claim has it -/
theorem lw_ret {p : Program} {l : Launch} {e : Env} {s : State} {m : MethodId} {below : List Frame} {meth : Method} {c : Code} {b : Nat} (hx : p.tables.exec = Jvm.exec) (hb : c.code = code) (hr : meth.sig.returnType = ret) (hlocks : meth.locks = false) {pc : Nat} {H : Heap} {ls : Array Slot} (hdg : decode code pc = .ok (.ireturn, 1)) : W p l e room_1 s m #[Value.ref b] below meth c H [] 601024 7293034 (lw_Z below #[Value.ref b] s) (F0 m pc ls [.int 1]) := by
  intro T hT X
  obtain ⟨fs, hret, hrun, hended, hW, hframe⟩ := X.leave (v := some (.int 1)) (hlocks := hlocks) (fun h => by rw [hr] at h; cases h)
  have hmeth' : T.vm.method? m = some meth := X.method'
  refine ⟨T.setFrames fs, ?_, .returned (some (.int 1)), hrun, hended, rfl, ⟨_, rfl⟩, hW, hframe⟩
  jvm_step X.here [X.here.top, hx, hb, hdg, hmeth', hr, ret, narrow_b1]
  (try refine ⟨rfl, ?_⟩); (try refine ⟨rfl, ?_⟩)
  first | (intro acts; rw [hret _ acts rfl rfl rfl]) | rw [hret _ _ rfl rfl rfl]
  exact Steps.refl _
/-- what holds at the law's entry: the machine, the code, the tables' words (any of lw_tbl by 'hts w (by decide +kernel)'), the script of L ints xs at the cell b, what the Statement gives of the start (any of its parts by flat_of_before) -/
def lw_At (p : Program) (s : State) (m : MethodId) (meth : Method) (c : Code) (b L : Nat) (xs : Nat → Int32) : Prop :=
  p.tables.exec = Jvm.exec ∧ c.code = code ∧ meth.sig.returnType = ret ∧ c.maxLocals = 7 ∧ s.vm.findClass R_law = some m.cls ∧ (∀ w ∈ lw_tbl, w.before #[Value.ref b] s = true) ∧ va_X b L xs s s.heap ∧ b < s.heap.size ∧ meth.locks = false ∧ (Jvm.Cond.and given_1 narrow_1).before #[Value.ref b] s = true
/-! FROM THE ENTRY TO THE LOOP, and from the pure theorem to the claim -/
theorem ct_cost1 : (ct_cs ct_k ctTL).1 ≤ 50000 := by decide +kernel
theorem ct_cost2 : (ct_cs ct_k ctTL).2 ≤ 300000 := by decide +kernel
theorem ct_clampN {n : Nat} (h : n < 2147483648) : (Int32.ofNat n).toNatClampNeg = n := by
  have : (Int32.ofNat n).toInt = (n : Int) := Int32.toInt_ofNat_of_lt h
  unfold Int32.toNatClampNeg
  rw [this]
  rfl
/-- WHAT IS LEFT: on every script the law's loop, on the abstract machine, answers 1 -/
def am_pure : Prop := ∀ (L : Nat) (xs : Nat → Int32), L ≤ 3072 → ∃ (d : Nat) (h' : am_H), d ≤ 1000 ∧ h'.1 ≤ 60000 ∧ am_go (am_cl d) qW_law_ 0 ct_ls1 [] (am_h0 L xs) = some (.inl (some 1), h')
theorem whole_of_pure (hp : am_pure) {p : Program} {e : Env} {s : State} {m : MethodId} {below : List Frame} {meth : Method} {c : Code} (l : Launch) (hflags : l.flags = flags0) {b L : Nat} {xs : Nat → Int32} (hL : L ≤ 3072) (C0 : lw_At p s m meth c b L xs) (htab : c.exceptionTable.toList = []) (hnm : meth.name = "law") : W p l e room_1 s m #[Value.ref b] below meth c s.heap [] 0 0 (lw_Z below #[Value.ref b] s) (entryFrame m ([Value.ref b] : List Value).toArray 7) := by
  obtain ⟨hx, hb, hr, hml, hown, hts, hX, hbl, hlocks, hgv⟩ := C0
  obtain ⟨G, hG, hGb, hS0, hK, hcK⟩ := ct_K0 hts hgv
  obtain ⟨d, h', hd, hh', epure⟩ := hp L xs hL
  obtain ⟨n, en⟩ := am_go_some.mp epure
  have hT := ct_T0 hts
  have htr : l.stackTraces = false := by
    unfold Launch.stackTraces
    rw [hflags]
    decide
  have hCt : ct_Cx ctkL G p room_1 s m #[Value.ref b] meth c := ⟨hx, hb, hml, hown, hT, hcK, hlocks, Nat.le_of_ble_eq_true rfl, Nat.le_of_ble_eq_true rfl⟩
  have hC : am_Cx qW_law_ G p l room_1 s m #[Value.ref b] meth c := ⟨hx, hb, hml, hown, hT, hK, by rw [hS0]; exact Nat.le_refl _, htr, hlocks, Nat.le_of_ble_eq_true rfl, Nat.le_of_ble_eq_true rfl⟩
  have hB0 : ct_B G [] s s.heap [] := ⟨fun k q h => (by cases h), (by rw [hS0]; rfl), va_S.rf, by rw [hS0]; exact Nat.le_refl _⟩
  obtain ⟨rls, ef, hl⟩ := ct_entry (G := G) (n := 7) (av := [.ref 391]) rfl (by decide) m
  have ef : entryFrame m ([Value.ref b] : List Value).toArray 7 = F0 m 0 rls [] := by
    rw [← ef]
    show entryFrame m ([Value.ref b] : List Value).toArray 7 = entryFrame m ([Value.ref (G.1 391)] : List Value).toArray 7
    rw [hGb]
  rw [ef]
  have hE : am_Ends qW_law_ G p l e room_1 s m #[Value.ref b] below meth c 0 (lw_Z below #[Value.ref b] s) (.inl (some 1), h') := by
    refine ⟨fun v h2 H' locs' rls' pc' er hB' hok => ?_, fun x h2 q ce H' locs' rls' pc' rest er => (by cases er), fun x h2 H' locs' rls' pc' st er => (by cases er)⟩
    cases er
    refine W.widen (k := 601024) (n := 7293034) (by omega) (by omega) (va_forget (fun q hq => ?_) (lw_ret hx hb hr hlocks hok.1))
    have : G.2.2.2.2 ≤ q.base := hB'.2.2.1.2.2 q hq
    rw [hS0] at this
    exact this
  have hXm : am_X G (am_h0 L xs) s s.heap := by
    have hsl : am_sl (am_h0 L xs) = L := ct_clampN (Nat.lt_of_le_of_lt hL (Nat.le_of_ble_eq_true rfl))
    refine ⟨?_, by rw [hGb]; exact hbl, ?_, ?_⟩
    · rw [hsl, hGb]
      exact hX
    · show ¬ G.2.2.2.2 ≤ G.1 391
      rw [hS0, hGb]
      omega
    · rw [hsl]
      rfl
  have hrun := ct_run (l := l) (en := e) (below := below) (Q := lw_Z below #[Value.ref b] s) (d := 4) (Φ := ct_cl ct_k 4) am_cls_ok (ct_sound_ok 4) hCt hnm (Nat.le_of_ble_eq_true rfl) (Nat.le_of_ble_eq_true rfl) ctTL ct_ls0 [] [] rls s.heap [] 0 0 ct_start cok_law (by have := ct_cost1; show 0 + _ ≤ 601024; omega) (by have := ct_cost2; show 0 + _ ≤ 7293034; omega) hl hB0 (fun rls1 H1 locs1 hl1 hB1 => by
    have hBm : am_B G (am_h0 L xs) s H1 locs1 := ⟨am_h0_P hG hB1.1, am_h0_D hG, hB1.2.2.1, hXm⟩
    have w := am_gW (N0 := 0) am_cls_ok am_JW_ok am_SL_ok am_SC_ok (am_sound_ok htr d) GW_law_ hC (by rw [htab]; rfl) (by show d + 9 ≤ 2048; omega) (by show 40 * d + 200 ≤ 84000; omega) (by show h'.1 - 0 ≤ 601024; omega) (by show 6 * (h'.1 - 0) ≤ 7293034; omega) (fun _ => ⟨_, _, rfl⟩) hE n 0 ct_ls1 [] (am_h0 L xs) H1 locs1 rls1 en (Nat.zero_le _) hl1 hBm
    refine W.widen (k := 50000) (n := 300000) (by have := ct_cost1; omega) (by have := ct_cost2; omega) ?_
    exact w)
  exact hrun

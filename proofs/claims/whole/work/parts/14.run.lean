/-! A RUN OF THE ABSTRACT MACHINE IS A RUN OF THE MACHINE -/
/-- a list of arguments off the stack -/
theorem am_take {st : List Value} {b : Nat} {o : Nat} {rest : List Value} (h : st.drop b = .ref o :: rest) : st = (st.take b) ++ .ref o :: rest ∧ (st.take (b + 1)).reverse = .ref o :: (st.take b).reverse ∧ st.drop (b + 1) = rest ∧ (st.take b).length = b := by
  have h1 : st = st.take b ++ st.drop b := (List.take_append_drop b st).symm
  have hl : b < st.length := by
    rcases Nat.lt_or_ge b st.length with q | q
    · exact q
    · rw [List.drop_eq_nil_of_le q] at h; cases h
  have h2 : (st.take b).length = b := by rw [List.length_take]; omega
  refine ⟨by rw [← h]; exact h1, ?_, ?_, h2⟩
  · have h3 : st.take (b + 1) = st.take b ++ [.ref o] := by
      have e9 : st[b]? = some (.ref o) := by
        have : (st.drop b)[0]? = some (.ref o) := by rw [h]; rfl
        rw [List.getElem?_drop] at this
        simpa using this
      rw [List.take_add_one, e9]
      rfl
    rw [h3]
    simp
  · have : (st.drop b).drop 1 = rest := by rw [h]; rfl
    rw [List.drop_drop] at this
    exact this
/-- what a body's run is told: the machine, the callees, how it ends -/
def am_Ends (k : Nat) (G : am_G) (p : Program) (l : Launch) (en : Env) (R : Room) (s : State) (m : MethodId) (args : Array Value) (below : List Frame) (meth : Method) (c : Code) (N0 : Nat) (Q : State → Prop) (r : am_R) : Prop :=
  (∀ (v : Option Int32) (h' : am_H) (H' : Heap) (locs' : List Loc) (rls' : Array Slot) (pc' : Nat), r = (.inl v, h') → am_B G h' s H' locs' → am_okR (am_kt k) pc' v → W p l en R s m args below meth c H' locs' (h'.1 - N0) (6 * (h'.1 - N0)) Q (F0 m pc' rls' (v.map Value.int).toList)) ∧
  (∀ (x : Nat) (h' : am_H) (q : Addr) (ce : Cell) (H' : Heap) (locs' : List Loc) (rls' : Array Slot) (pc' : Nat) (rest : List Value), r = (.inr x, h') → am_B G h' s H' locs' → H'[q]? = some ce → ce.vm = .none → s.vm.findClass (am_E x) = some ce.cls → vx_W p l en R s m args below meth c H' locs' (h'.1 - N0) (6 * (h'.1 - N0)) Q (F0 m pc' rls' rest) q) ∧
  (∀ (x : Nat) (h' : am_H) (H' : Heap) (locs' : List Loc) (rls' : Array Slot) (pc' : Nat) (st : List Value), r = (.inr x, am_th h') → am_B G h' s H' locs' → am_okT (am_kt k) pc' x → N0 ≤ h'.1 → am_cs st ≤ 8 → rls'.size = am_mL k → W p l en R s m args below meth c H' locs' (h'.1 - N0) (6 * (h'.1 - N0)) Q (F0 m pc' rls' (st.map (am_v G))))
/-- the callees at depth d -/
def am_IH (l : Launch) (G : am_G) (d : Nat) : Prop := ∀ (j : Nat) (av : List Value) (h : am_H) (r : am_R), am_cl d j av h = some r → (am_nl j ∨ ((∃ v h', r = (.inl v, h')) ∧ j ≠ qW_law_)) → am_M l G d j av h r
section AME
variable {p : Program} {l : Launch} {en : Env} {R : Room} {s : State} {m : MethodId} {args : Array Value} {below : List Frame} {meth : Method} {c : Code} {Q : State → Prop} {G : am_G} {k N0 d : Nat}
/-- a handler answers -/
theorem am_catch {r : am_R} (hE : am_Ends k G p l en R s m args below meth c N0 Q r) (hC : am_Cx k G p l R s m args meth c) (htab : c.exceptionTable.toList = tableOf (am_hh k)) {pc z x : Nat} {v : Int32} {h' : am_H} {q : Addr} {ce : Cell} {H1 : Heap} {locs1 : List Loc} {rls : Array Slot} {ls : List Value} {rest : List Value} (hl : am_L G (am_mL k) rls ls) (hok : am_okH (am_kt k) k pc z) (hv : am_cf (am_ctt z) x = some v) (hr : r = (.inl (some v), h')) (hB : am_B G h' s H1 locs1) (hq : H1[q]? = some ce) (hvm : ce.vm = .none) (hcl : s.vm.findClass (am_E x) = some ce.cls) :
    vx_W p l en R s m args below meth c H1 locs1 (h'.1 - N0) (6 * (h'.1 - N0)) Q (F0 m pc rls rest) q := by
  obtain ⟨pre, y, suf, name, g1, g2, g3, g4, g5, g6, sl, p1, n, g7, g8, g9, g10, g11, g12⟩ := hok x v hv
  refine vx_catch hC.2.2.2.1 pre y suf (htab.trans g1) (fun w hw => ?_) g3 g4 (hC.2.2.2.2.1 _ g5) (am_Nw_use rfl (hC.2.2.2.2.2.1.2.1 _ g6)) hq hvm hcl ?_
  · rcases g2 w hw with h9 | ⟨h9, nm, h10, h11⟩
    · exact Or.inl h9
    · exact Or.inr ⟨h9, nm, hC.2.2.2.2.1 _ h10, hC.2.2.2.2.2.1.2.2.2.2.2.2.2 _ h11⟩
  · have fin : ∀ ls' : Array Slot, W p l en R s m args below meth c H1 locs1 (h'.1 - N0) (6 * (h'.1 - N0)) Q (F0 m p1 ls' []) := fun ls' => lv_iconst hC.1 hC.2.1 g9 g10 (hE.1 (some v) h' H1 locs1 ls' (p1 + 1) hr hB ⟨g11, Or.inl g12⟩)
    rcases g7 with ⟨f, d1, f1, rfl⟩ | ⟨d1, rfl⟩
    · exact lv_astore_n hC.1 hC.2.1 d1 f1 hl.1 g8 rfl (fun ls' _ => fin ls')
    · exact lv_astore hC.1 hC.2.1 d1 hl.1 g8 rfl (fun ls' _ => fin ls')
set_option maxHeartbeats 8000000 in
theorem am_exW {r : am_R} {J : am_J} (hcl : ∀ bb q, vwCl[bb]? = some q → am_cls bb q) (hJ : am_JW) (hSL : am_SL) (hSC : am_SC) (hIH : am_IH l G d) (hC : am_Cx k G p l R s m args meth c) (htab : c.exceptionTable.toList = tableOf (am_hh k)) (hRf : d + 9 ≤ R.frames) (hRl : 40 * d + 200 ≤ R.locals) (hRc : r.2.1 - N0 ≤ R.cells) (hRs : 6 * (r.2.1 - N0) ≤ R.slots) (hlaw : k = qW_law_ → ∃ v h', r = (.inl v, h')) (hE : am_Ends k G p l en R s m args below meth c N0 Q r)
    (hJf : ∀ b ls st h r', J b ls st h = some r' → am_fr h r'.2)
    (hG : ∀ (b : Nat) (ls st : List Value) (h : am_H) (H : Heap) (locs : List Loc) (rls : Array Slot), J b ls st h = some r → N0 ≤ h.1 → am_L G (am_mL k) rls ls → am_B G h s H locs → W p l en R s m args below meth c H locs (h.1 - N0) (6 * (h.1 - N0)) Q (F0 m (am_pc k b) rls (st.map (am_v G)))) :
    ∀ (ops : List am_I), am_okL (am_kt k) k ops → am_bks ops → ∀ (ls st : List Value) (h : am_H) (H : Heap) (locs : List Loc) (rls : Array Slot), am_ex (am_cl d) J ops ls st h = some r → N0 ≤ h.1 → am_L G (am_mL k) rls ls → am_B G h s H locs → W p l en R s m args below meth c H locs (h.1 - N0) (6 * (h.1 - N0)) Q (F0 m (am_hd ops) rls (st.map (am_v G))) := by
  intro ops
  induction ops with
  | nil => intro _ _ ls st h H locs rls e; simp [am_ex] at e
  | cons i ops ih =>
    intro hok hbs ls st h H locs rls e hN hl hB
    have hbs' : am_bks ops := fun i hi => hbs i (List.mem_cons_of_mem _ hi)
    have exF : ∀ ls st h, am_ex (am_cl d) J ops ls st h = some r → am_fr h r.2 := fun ls st h e => am_ex_fr (fun j av h r e => am_cl_fr d j av h r e) hJf ops hbs' ls st h r e
    obtain ⟨pc, op, a, b, z⟩ := i
    obtain ⟨hok, hok'⟩ := hok
    have ih := ih hok' hbs'
    show W p l en R s m args below meth c H locs (h.1 - N0) (6 * (h.1 - N0)) Q (F0 m pc rls (st.map (am_v G)))
    have hx := hC.1
    have hb := hC.2.1
    unfold am_ex at e
    by_cases ho : op < 50
    · rw [if_pos ho] at e hok
      obtain ⟨ls9, st9, h9, e9, f9, g9⟩ := am_st_fr (hbs _ List.mem_cons_self) e
      have fr9 := f9.tr (exF _ _ _ e9)
      refine am_row hcl hJ hSL hSC hC (by have := fr9.1; omega) (by have := fr9.1; omega) hl hB hok e (fun ls1 st1 h1 rls1 H1 locs1 e1 hl1 hB1 f1 g1 => ?_)
      have w := ih ls1 st1 h1 H1 locs1 rls1 e1 (Nat.le_trans hN f1.1) hl1 hB1
      rw [g1] at w
      exact w
    · rw [if_neg ho] at e hok
      clear ho
      -- a call that may throw, answering an int
      have callX : ∀ (j : Nat) (Bs rest : List Value) (st0 : List Value) (av : Array Value) (r1 : am_R), am_cl d j Bs h = some r1 → vx_Run p l en R s m args below meth c H locs (h.1 - N0) (6 * (h.1 - N0)) (r1.2.1 - h.1) (6 * (r1.2.1 - h.1)) (F0 m pc rls st0) (rest.map (am_v G)) (am_Qc G r1 av) (am_XC G r1) (am_A G) →
          (∀ x h', r1 = (.inr x, h') → ∀ (q : Addr) (ce : Cell) (H1 : Heap) (locs1 : List Loc), am_B G h' s H1 locs1 → H1[q]? = some ce → ce.vm = .none → s.vm.findClass (am_E x) = some ce.cls → vx_W p l en R s m args below meth c H1 locs1 (h'.1 - N0) (6 * (h'.1 - N0)) Q (F0 m pc rls (rest.map (am_v G))) q) →
          (∀ v h', r1 = (.inl v, h') → am_ex (am_cl d) J ops ls ((v.map Value.int).toList ++ rest) h' = some r) → am_hd ops = pc + 3 →
          W p l en R s m args below meth c H locs (h.1 - N0) (6 * (h.1 - N0)) Q (F0 m pc rls st0) := by
        intro j Bs rest st0 av r1 e1 hr kx kk hnp
        have f1 := am_cl_fr d j Bs h r1 e1
        have ac : ∀ n : Nat, h.1 ≤ n → h.1 - N0 + (n - h.1) = n - N0 := fun n hn => by omega
        have as : ∀ n : Nat, h.1 ≤ n → 6 * (h.1 - N0) + 6 * (n - h.1) = 6 * (n - N0) := fun n hn => by omega
        refine am_callX hr hB f1 (fun x h' q ce H1 locs1 er hB1 g1 g2 g3 => ?_) (fun v h' H1 locs1 er hB1 => ?_)
        · subst er
          rw [ac h'.1 f1.1, as h'.1 f1.1]
          exact kx x h' rfl q ce H1 locs1 hB1 g1 g2 g3
        · subst er
          rw [ac h'.1 f1.1, as h'.1 f1.1]
          have w := ih ls _ h' H1 locs1 rls (kk v h' rfl) (Nat.le_trans hN f1.1) hl hB1
          rw [hnp] at w
          have e2 : ((v.map Value.int).toList ++ rest).map (am_v G) = (v.map Value.int).toList ++ rest.map (am_v G) := by cases v <;> rfl
          rw [e2] at w
          exact w
      have callN : ∀ (j : Nat) (Bs rest : List Value) (st0 : List Value) (av : Array Value) (v : Option Int32) (h' : am_H), am_cl d j Bs h = some (.inl v, h') → va_Run p l en R s m args below meth c H locs (h.1 - N0) (6 * (h.1 - N0)) (h'.1 - h.1) (6 * (h'.1 - h.1)) (F0 m pc rls st0) (rest.map (am_v G)) (am_Qc G (.inl v, h') av) (am_A G) →
          am_ex (am_cl d) J ops ls ((v.map Value.int).toList ++ rest) h' = some r → am_hd ops = pc + 3 →
          W p l en R s m args below meth c H locs (h.1 - N0) (6 * (h.1 - N0)) Q (F0 m pc rls st0) := by
        intro j Bs rest st0 av v h' e1 hr kk hnp
        have f1 := am_cl_fr d j Bs h _ e1
        have ac : ∀ n : Nat, h.1 ≤ n → h.1 - N0 + (n - h.1) = n - N0 := fun n hn => by omega
        have as : ∀ n : Nat, h.1 ≤ n → 6 * (h.1 - N0) + 6 * (n - h.1) = 6 * (n - N0) := fun n hn => by omega
        refine am_callN hr hB f1 (fun v2 h2 H1 locs1 er hB1 => ?_)
        cases er
        rw [ac h'.1 f1.1, as h'.1 f1.1]
        have w := ih ls _ h' H1 locs1 rls kk (Nat.le_trans hN f1.1) hl hB1
        rw [hnp] at w
        have e2 : ((v.map Value.int).toList ++ rest).map (am_v G) = (v.map Value.int).toList ++ rest.map (am_v G) := by cases v <;> rfl
        rw [e2] at w
        exact w
      have room : ∀ (r1 : am_R), am_fr h r1.2 → am_fr r1.2 r.2 → h.1 - N0 + (r1.2.1 - h.1) ≤ R.cells ∧ 6 * (h.1 - N0) + 6 * (r1.2.1 - h.1) ≤ R.slots := fun r1 f1 f2 => by
        have := f1.1
        have := f2.1
        omega
      have out : ∀ (x : Nat) (h' : am_H) (rest : List Value), r = (.inr x, h') → ∀ (q : Addr) (ce : Cell) (H1 : Heap) (locs1 : List Loc), am_B G h' s H1 locs1 → H1[q]? = some ce → ce.vm = .none → s.vm.findClass (am_E x) = some ce.cls → vx_W p l en R s m args below meth c H1 locs1 (h'.1 - N0) (6 * (h'.1 - N0)) Q (F0 m pc rls (rest.map (am_v G))) q := fun x h' rest er q ce H1 locs1 hB1 g1 g2 g3 => hE.2.1 x h' q ce H1 locs1 rls pc _ er hB1 g1 g2 g3
      split at e
      case h_1 =>
        split at e
        · rename_i _ x t
          obtain ⟨off, d1, t1, t2⟩ := hok
          refine lv_if_eq hx hb d1 t1 (fun q => ?_) (fun q => ?_)
          · rw [if_pos q] at e
            exact hG _ _ _ _ _ _ _ e hN hl hB
          · rw [if_neg q] at e
            rw [← t2]
            exact hG _ _ _ _ _ _ _ e hN hl hB
        · exact (Option.some_ne_none _ e.symm).elim
      case h_2 =>
        split at e
        · rename_i _ x t
          obtain ⟨off, d1, t1, t2⟩ := hok
          refine lv_if_ne hx hb d1 t1 (fun q => ?_) (fun q => ?_)
          · rw [if_neg q] at e
            exact hG _ _ _ _ _ _ _ e hN hl hB
          · rw [if_pos q] at e
            rw [← t2]
            exact hG _ _ _ _ _ _ _ e hN hl hB
        · exact (Option.some_ne_none _ e.symm).elim
      case h_3 =>
        split at e
        · rename_i _ x t
          obtain ⟨off, d1, t1, t2⟩ := hok
          refine lv_if_lt hx hb d1 t1 (fun q => ?_) (fun q => ?_)
          · rw [if_pos q] at e
            exact hG _ _ _ _ _ _ _ e hN hl hB
          · rw [if_neg q] at e
            rw [← t2]
            exact hG _ _ _ _ _ _ _ e hN hl hB
        · exact (Option.some_ne_none _ e.symm).elim
      case h_4 =>
        split at e
        · rename_i _ x t
          obtain ⟨off, d1, t1, t2⟩ := hok
          refine lv_if_ge hx hb d1 t1 (fun q => ?_) (fun q => ?_)
          · rw [if_pos q] at e
            exact hG _ _ _ _ _ _ _ e hN hl hB
          · rw [if_neg q] at e
            rw [← t2]
            exact hG _ _ _ _ _ _ _ e hN hl hB
        · exact (Option.some_ne_none _ e.symm).elim
      case h_5 =>
        split at e
        · rename_i _ x t
          obtain ⟨off, d1, t1, t2⟩ := hok
          refine lv_if_gt hx hb d1 t1 (fun q => ?_) (fun q => ?_)
          · rw [if_pos q] at e
            exact hG _ _ _ _ _ _ _ e hN hl hB
          · rw [if_neg q] at e
            rw [← t2]
            exact hG _ _ _ _ _ _ _ e hN hl hB
        · exact (Option.some_ne_none _ e.symm).elim
      case h_6 =>
        split at e
        · rename_i _ x t
          obtain ⟨off, d1, t1, t2⟩ := hok
          refine lv_if_le hx hb d1 t1 (fun q => ?_) (fun q => ?_)
          · rw [if_pos q] at e
            exact hG _ _ _ _ _ _ _ e hN hl hB
          · rw [if_neg q] at e
            rw [← t2]
            exact hG _ _ _ _ _ _ _ e hN hl hB
        · exact (Option.some_ne_none _ e.symm).elim
      case h_7 =>
        split at e
        · rename_i _ y x t
          obtain ⟨off, d1, t1, t2⟩ := hok
          refine lv_icmp_eq hx hb d1 t1 (fun q => ?_) (fun q => ?_)
          · rw [if_pos q] at e
            exact hG _ _ _ _ _ _ _ e hN hl hB
          · rw [if_neg q] at e
            rw [← t2]
            exact hG _ _ _ _ _ _ _ e hN hl hB
        · exact (Option.some_ne_none _ e.symm).elim
      case h_8 =>
        split at e
        · rename_i _ y x t
          obtain ⟨off, d1, t1, t2⟩ := hok
          refine lv_icmp_ne hx hb d1 t1 (fun q => ?_) (fun q => ?_)
          · rw [if_neg q] at e
            exact hG _ _ _ _ _ _ _ e hN hl hB
          · rw [if_pos q] at e
            rw [← t2]
            exact hG _ _ _ _ _ _ _ e hN hl hB
        · exact (Option.some_ne_none _ e.symm).elim
      case h_9 =>
        split at e
        · rename_i _ y x t
          obtain ⟨off, d1, t1, t2⟩ := hok
          refine lv_icmp_lt hx hb d1 t1 (fun q => ?_) (fun q => ?_)
          · rw [if_pos q] at e
            exact hG _ _ _ _ _ _ _ e hN hl hB
          · rw [if_neg q] at e
            rw [← t2]
            exact hG _ _ _ _ _ _ _ e hN hl hB
        · exact (Option.some_ne_none _ e.symm).elim
      case h_10 =>
        split at e
        · rename_i _ y x t
          obtain ⟨off, d1, t1, t2⟩ := hok
          refine lv_icmp_ge hx hb d1 t1 (fun q => ?_) (fun q => ?_)
          · rw [if_pos q] at e
            exact hG _ _ _ _ _ _ _ e hN hl hB
          · rw [if_neg q] at e
            rw [← t2]
            exact hG _ _ _ _ _ _ _ e hN hl hB
        · exact (Option.some_ne_none _ e.symm).elim
      case h_11 =>
        split at e
        · rename_i _ y x t
          obtain ⟨off, d1, t1, t2⟩ := hok
          refine lv_icmp_gt hx hb d1 t1 (fun q => ?_) (fun q => ?_)
          · rw [if_pos q] at e
            exact hG _ _ _ _ _ _ _ e hN hl hB
          · rw [if_neg q] at e
            rw [← t2]
            exact hG _ _ _ _ _ _ _ e hN hl hB
        · exact (Option.some_ne_none _ e.symm).elim
      case h_12 =>
        split at e
        · rename_i _ y x t
          obtain ⟨off, d1, t1, t2⟩ := hok
          refine lv_icmp_le hx hb d1 t1 (fun q => ?_) (fun q => ?_)
          · rw [if_pos q] at e
            exact hG _ _ _ _ _ _ _ e hN hl hB
          · rw [if_neg q] at e
            rw [← t2]
            exact hG _ _ _ _ _ _ _ e hN hl hB
        · exact (Option.some_ne_none _ e.symm).elim
      case h_13 =>
        split at e
        · rename_i hcond
          obtain ⟨hlen, h8⟩ := hcond
          have hst : st = ((st.take b).reverse).reverse ++ st.drop b := by rw [List.reverse_reverse]; exact (List.take_append_drop b st).symm
          have hlen2 : ((st.take b).reverse).length = b := by rw [List.length_reverse, List.length_take]; omega
          unfold am_kI at e
          split at e
          · rename_i _ x h1 ec
            have f1 := am_cl_fr d _ _ _ _ ec
            obtain ⟨rc, rs⟩ := room _ f1 (exF _ _ _ e)
            rcases hok with ⟨hok, hh⟩ | ⟨hok, hk, hk2⟩
            · have hr := am_runS (en := en) (below := below) (d := d) hok hC hRf hRl hl.1.1 hB (hIH _ _ _ _ ec (Or.inl hh)) hlen2 h8 rc rs
              rw [← hst] at hr
              exact callX _ _ _ _ _ _ ec hr (fun x h' q => by cases q) (fun v h' q => by cases q; exact e) (by obtain ⟨-, -, -, q, -⟩ := hok; exact q)
            · have hr := am_runSW (en := en) (below := below) (d := d) hok hC hRf hRl hl.1.1 hB (hIH _ _ _ _ ec (Or.inr ⟨⟨_, _, rfl⟩, hk2⟩)) hlen2 h8 rc rs
              rw [← hst] at hr
              exact callX _ _ _ _ _ _ ec hr (fun x h' q => by cases q) (fun v h' q => by cases q; exact e) (by obtain ⟨-, -, -, -, q, -⟩ := hok; exact q)
          · rename_i _ x h1 ec
            cases e
            have f1 := am_cl_fr d _ _ _ _ ec
            obtain ⟨rc, rs⟩ := room _ f1 (am_fr.rf _)
            rcases hok with ⟨hok, hh⟩ | ⟨hok, hk, hk2⟩
            · have hr := am_runS (en := en) (below := below) (d := d) hok hC hRf hRl hl.1.1 hB (hIH _ _ _ _ ec (Or.inl hh)) hlen2 h8 rc rs
              rw [← hst] at hr
              exact callX _ _ _ _ _ _ ec hr (fun x h' q => by cases q; exact out _ _ _ rfl) (fun v h' q => by cases q) (by obtain ⟨-, -, -, q, -⟩ := hok; exact q)
            · obtain ⟨v, h', q⟩ := hlaw hk
              cases q
          · exact (Option.some_ne_none _ e.symm).elim
        · exact (Option.some_ne_none _ e.symm).elim
      case h_14 =>
        split at e
        · rename_i hcond
          obtain ⟨hlen, h8⟩ := hcond
          have hst : st = ((st.take b).reverse).reverse ++ st.drop b := by rw [List.reverse_reverse]; exact (List.take_append_drop b st).symm
          have hlen2 : ((st.take b).reverse).length = b := by rw [List.length_reverse, List.length_take]; omega
          unfold am_kV at e
          split at e
          · rename_i _ h1 ec
            have f1 := am_cl_fr d _ _ _ _ ec
            obtain ⟨rc, rs⟩ := room _ f1 (exF _ _ _ e)
            obtain ⟨hok, hh⟩ := hok
            have hr := am_runS (en := en) (below := below) (d := d) hok hC hRf hRl hl.1.1 hB (hIH _ _ _ _ ec (Or.inl hh)) hlen2 h8 rc rs
            rw [← hst] at hr
            exact callX _ _ _ _ _ _ ec hr (fun x h' q => by cases q) (fun v h' q => by cases q; exact e) (by obtain ⟨-, -, -, q, -⟩ := hok; exact q)
          · rename_i _ x h1 ec
            cases e
            have f1 := am_cl_fr d _ _ _ _ ec
            obtain ⟨rc, rs⟩ := room _ f1 (am_fr.rf _)
            obtain ⟨hok, hh⟩ := hok
            have hr := am_runS (en := en) (below := below) (d := d) hok hC hRf hRl hl.1.1 hB (hIH _ _ _ _ ec (Or.inl hh)) hlen2 h8 rc rs
            rw [← hst] at hr
            exact callX _ _ _ _ _ _ ec hr (fun x h' q => by cases q; exact out _ _ _ rfl) (fun v h' q => by cases q) (by obtain ⟨-, -, -, q, -⟩ := hok; exact q)
          · exact (Option.some_ne_none _ e.symm).elim
        · exact (Option.some_ne_none _ e.symm).elim
      case h_15 =>
        split at e
        · rename_i h8
          split at e
          · rename_i _ o t ht
            split at e
            · rename_i hk
              obtain ⟨t1, t2, t3, t4⟩ := am_take ht
              rw [t3] at h8 e
              rw [t2] at e
              have hst : st = ((st.take b).reverse).reverse ++ .ref o :: t := by rw [List.reverse_reverse]; exact t1
              have hlen2 : ((st.take b).reverse).length = b := by rw [List.length_reverse]; exact t4
              unfold am_kI at e
              split at e
              · rename_i _ x h1 ec
                have f1 := am_cl_fr d _ _ _ _ ec
                obtain ⟨rc, rs⟩ := room _ f1 (exF _ _ _ e)
                obtain ⟨hok, hh⟩ := hok
                have hr := am_runV (en := en) (below := below) (d := d) hok hk hC hRf hRl hl.1.1 hB (hIH _ _ _ _ ec (Or.inl hh)) hlen2 h8 rc rs
                rw [← hst] at hr
                exact callX _ _ _ _ _ _ ec hr (fun x h' q => by cases q) (fun v h' q => by cases q; exact e) (by obtain ⟨-, -, -, -, -, q, -⟩ := hok; exact q)
              · rename_i _ x h1 ec
                cases e
                have f1 := am_cl_fr d _ _ _ _ ec
                obtain ⟨rc, rs⟩ := room _ f1 (am_fr.rf _)
                obtain ⟨hok, hh⟩ := hok
                have hr := am_runV (en := en) (below := below) (d := d) hok hk hC hRf hRl hl.1.1 hB (hIH _ _ _ _ ec (Or.inl hh)) hlen2 h8 rc rs
                rw [← hst] at hr
                exact callX _ _ _ _ _ _ ec hr (fun x h' q => by cases q; exact out _ _ _ rfl) (fun v h' q => by cases q) (by obtain ⟨-, -, -, -, -, q, -⟩ := hok; exact q)
              · exact (Option.some_ne_none _ e.symm).elim
            · exact (Option.some_ne_none _ e.symm).elim
          · exact (Option.some_ne_none _ e.symm).elim
        · exact (Option.some_ne_none _ e.symm).elim
      case h_16 =>
        split at e
        · rename_i h8
          split at e
          · rename_i _ o t ht
            split at e
            · rename_i hk
              obtain ⟨t1, t2, t3, t4⟩ := am_take ht
              rw [t3] at h8 e
              rw [t2] at e
              have hst : st = ((st.take b).reverse).reverse ++ .ref o :: t := by rw [List.reverse_reverse]; exact t1
              have hlen2 : ((st.take b).reverse).length = b := by rw [List.length_reverse]; exact t4
              unfold am_kV at e
              split at e
              · rename_i _ h1 ec
                have f1 := am_cl_fr d _ _ _ _ ec
                obtain ⟨rc, rs⟩ := room _ f1 (exF _ _ _ e)
                obtain ⟨hok, hh⟩ := hok
                have hr := am_runV (en := en) (below := below) (d := d) hok hk hC hRf hRl hl.1.1 hB (hIH _ _ _ _ ec (Or.inl hh)) hlen2 h8 rc rs
                rw [← hst] at hr
                exact callX _ _ _ _ _ _ ec hr (fun x h' q => by cases q) (fun v h' q => by cases q; exact e) (by obtain ⟨-, -, -, -, -, q, -⟩ := hok; exact q)
              · rename_i _ x h1 ec
                cases e
                have f1 := am_cl_fr d _ _ _ _ ec
                obtain ⟨rc, rs⟩ := room _ f1 (am_fr.rf _)
                obtain ⟨hok, hh⟩ := hok
                have hr := am_runV (en := en) (below := below) (d := d) hok hk hC hRf hRl hl.1.1 hB (hIH _ _ _ _ ec (Or.inl hh)) hlen2 h8 rc rs
                rw [← hst] at hr
                exact callX _ _ _ _ _ _ ec hr (fun x h' q => by cases q; exact out _ _ _ rfl) (fun v h' q => by cases q) (by obtain ⟨-, -, -, -, -, q, -⟩ := hok; exact q)
              · exact (Option.some_ne_none _ e.symm).elim
            · exact (Option.some_ne_none _ e.symm).elim
          · exact (Option.some_ne_none _ e.symm).elim
        · exact (Option.some_ne_none _ e.symm).elim
      case h_17 =>
        split at e
        · rename_i h8
          split at e
          · rename_i _ o t ht
            split at e
            · rename_i hk
              obtain ⟨t1, t2, t3, t4⟩ := am_take ht
              rw [t3] at h8 e
              rw [t2] at e
              have hst : st = ((st.take b).reverse).reverse ++ .ref o :: t := by rw [List.reverse_reverse]; exact t1
              have hlen2 : ((st.take b).reverse).length = b := by rw [List.length_reverse]; exact t4
              unfold am_nI at e
              split at e
              · rename_i _ x h1 ec
                have f1 := am_cl_fr d _ _ _ _ ec
                obtain ⟨rc, rs⟩ := room _ f1 (exF _ _ _ e)
                obtain ⟨hok, hh⟩ := hok _ hk
                have hr := am_runU (en := en) (below := below) (d := d) hok rfl hC hRf hRl hl.1.1 hB (hIH _ _ _ _ ec (Or.inl hh)) hlen2 h8 rc rs
                rw [← hst] at hr
                exact callN _ _ _ _ _ _ _ ec hr e (by obtain ⟨-, -, -, -, -, -, -, -, -, q, -⟩ := hok; exact q)
              · exact (Option.some_ne_none _ e.symm).elim
            · exact (Option.some_ne_none _ e.symm).elim
          · exact (Option.some_ne_none _ e.symm).elim
        · exact (Option.some_ne_none _ e.symm).elim
      case h_18 =>
        split at e
        · rename_i h8
          split at e
          · rename_i _ o t ht
            split at e
            · rename_i hk
              obtain ⟨t1, t2, t3, t4⟩ := am_take ht
              rw [t3] at h8 e
              rw [t2] at e
              have hst : st = ((st.take b).reverse).reverse ++ .ref o :: t := by rw [List.reverse_reverse]; exact t1
              have hlen2 : ((st.take b).reverse).length = b := by rw [List.length_reverse]; exact t4
              unfold am_nV at e
              split at e
              · rename_i _ h1 ec
                have f1 := am_cl_fr d _ _ _ _ ec
                obtain ⟨rc, rs⟩ := room _ f1 (exF _ _ _ e)
                obtain ⟨hok, hh⟩ := hok _ hk
                have hr := am_runU (en := en) (below := below) (d := d) hok rfl hC hRf hRl hl.1.1 hB (hIH _ _ _ _ ec (Or.inl hh)) hlen2 h8 rc rs
                rw [← hst] at hr
                exact callN _ _ _ _ _ _ _ ec hr e (by obtain ⟨-, -, -, -, -, -, -, -, -, q, -⟩ := hok; exact q)
              · exact (Option.some_ne_none _ e.symm).elim
            · exact (Option.some_ne_none _ e.symm).elim
          · exact (Option.some_ne_none _ e.symm).elim
        · exact (Option.some_ne_none _ e.symm).elim
      case h_19 =>
        split at e
        · rename_i h8
          split at e
          · rename_i _ o t
            obtain ⟨hA1, hA2, hh1, hh2⟩ := hok
            split at e
            · rename_i hk
              unfold am_nI at e
              split at e
              · rename_i _ x h1 ec
                have f1 := am_cl_fr d _ _ _ _ ec
                obtain ⟨rc, rs⟩ := room _ f1 (exF _ _ _ e)
                have hr := am_runA (en := en) (below := below) (d := d) (Bs := []) hA1 hk hC hRf hRl hl.1.1 hB (hIH _ _ _ _ ec (Or.inl hh1)) rfl h8 rc rs
                exact callN _ _ _ _ _ _ _ ec hr e (by obtain ⟨-, -, -, -, -, -, -, -, -, -, -, -, q, -⟩ := hA1; exact q)
              · exact (Option.some_ne_none _ e.symm).elim
            · split at e
              · rename_i hk
                unfold am_nI at e
                split at e
                · rename_i _ x h1 ec
                  have f1 := am_cl_fr d _ _ _ _ ec
                  obtain ⟨rc, rs⟩ := room _ f1 (exF _ _ _ e)
                  have hr := am_runA (en := en) (below := below) (d := d) (Bs := []) hA2 hk hC hRf hRl hl.1.1 hB (hIH _ _ _ _ ec (Or.inl hh2)) rfl h8 rc rs
                  exact callN _ _ _ _ _ _ _ ec hr e (by obtain ⟨-, -, -, -, -, -, -, -, -, -, -, -, q, -⟩ := hA2; exact q)
                · exact (Option.some_ne_none _ e.symm).elim
              · exact (Option.some_ne_none _ e.symm).elim
          · exact (Option.some_ne_none _ e.symm).elim
        · exact (Option.some_ne_none _ e.symm).elim
      case h_20 =>
        obtain ⟨off, d1, t1⟩ := hok
        exact lv_goto hx hb d1 t1 (hG _ _ _ _ _ _ _ e hN hl hB)
      case h_21 =>
        have w := hG _ _ _ _ _ _ _ e hN hl hB
        rw [show am_pc k a = pc from hok] at w
        exact w
      case h_22 =>
        split at e
        · rename_i _ x t
          exact am_sw73 hx hb hok (hG _ _ _ _ _ _ _ e hN hl hB)
        · exact (Option.some_ne_none _ e.symm).elim
      case h_23 =>
        split at e
        · rename_i _ x
          cases e
          exact hE.1 (some x) h H locs rls pc rfl hB ⟨hok.1, Or.inl hok.2⟩
        · exact (Option.some_ne_none _ e.symm).elim
      case h_24 =>
        split at e
        · rename_i _ x
          split at e
          · rename_i hv
            cases e
            exact hE.1 (some x) h H locs rls pc rfl hB ⟨hok.1, Or.inr ⟨hok.2, hv⟩⟩
          · exact (Option.some_ne_none _ e.symm).elim
        · exact (Option.some_ne_none _ e.symm).elim
      case h_25 =>
        split at e
        · cases e
          exact hE.1 none h H locs rls pc rfl hB hok
        · exact (Option.some_ne_none _ e.symm).elim
      case h_26 =>
        split at e
        · rename_i h8
          cases e
          exact hE.2.2 a h H locs rls pc st rfl hB hok hN h8 hl.1.1
        · exact (Option.some_ne_none _ e.symm).elim
      case h_27 =>
        split at e
        · rename_i h8
          split at e
          · rename_i _ o t ht
            split at e
            · rename_i hk
              obtain ⟨t1, t2, t3, t4⟩ := am_take ht
              rw [t3] at h8 e
              rw [t2] at e
              have hst : st = ((st.take b).reverse).reverse ++ .ref o :: t := by rw [List.reverse_reverse]; exact t1
              have hlen2 : ((st.take b).reverse).length = b := by rw [List.length_reverse]; exact t4
              unfold am_cI at e
              split at e
              · rename_i _ x h1 ec
                have f1 := am_cl_fr d _ _ _ _ ec
                obtain ⟨rc, rs⟩ := room _ f1 (exF _ _ _ e)
                obtain ⟨hok, hh, hH⟩ := hok
                have hr := am_runV (en := en) (below := below) (d := d) hok hk hC hRf hRl hl.1.1 hB (hIH _ _ _ _ ec (Or.inl hh)) hlen2 h8 rc rs
                rw [← hst] at hr
                exact callX _ _ _ _ _ _ ec hr (fun x h' q => by cases q) (fun v h' q => by cases q; exact e) (by obtain ⟨-, -, -, -, -, q, -⟩ := hok; exact q)
              · rename_i _ x h1 ec
                split at e
                · rename_i _ v hv
                  cases e
                  have f1 := am_cl_fr d _ _ _ _ ec
                  obtain ⟨rc, rs⟩ := room (.inr x, h1) f1 (am_fr.rf _)
                  obtain ⟨hok, hh, hH⟩ := hok
                  have hr := am_runV (en := en) (below := below) (d := d) hok hk hC hRf hRl hl.1.1 hB (hIH _ _ _ _ ec (Or.inl hh)) hlen2 h8 rc rs
                  rw [← hst] at hr
                  exact callX _ _ _ _ _ _ ec hr (fun x h' q => by cases q; exact fun q ce H1 locs1 hB1 g1 g2 g3 => am_catch hE hC htab hl hH hv rfl hB1 g1 g2 g3) (fun v h' q => by cases q) (by obtain ⟨-, -, -, -, -, q, -⟩ := hok; exact q)
                · exact (Option.some_ne_none _ e.symm).elim
              · exact (Option.some_ne_none _ e.symm).elim
            · exact (Option.some_ne_none _ e.symm).elim
          · exact (Option.some_ne_none _ e.symm).elim
        · exact (Option.some_ne_none _ e.symm).elim
      case h_28 =>
        split at e
        · rename_i hcond
          obtain ⟨hlen, h8⟩ := hcond
          have hst : st = ((st.take b).reverse).reverse ++ st.drop b := by rw [List.reverse_reverse]; exact (List.take_append_drop b st).symm
          have hlen2 : ((st.take b).reverse).length = b := by rw [List.length_reverse, List.length_take]; omega
          unfold am_nI at e
          split at e
          · rename_i _ x h1 ec
            have f1 := am_cl_fr d _ _ _ _ ec
            obtain ⟨rc, rs⟩ := room _ f1 (exF _ _ _ e)
            obtain ⟨hok, hh⟩ := hok
            have hr := am_runN (en := en) (below := below) (d := d) hok hC hRf hRl hl.1.1 hB (hIH _ _ _ _ ec (Or.inl hh)) hlen2 h8 rc rs
            rw [← hst] at hr
            exact callN _ _ _ _ _ _ _ ec hr e (by obtain ⟨-, -, -, -, q, -⟩ := hok; exact q)
          · exact (Option.some_ne_none _ e.symm).elim
        · exact (Option.some_ne_none _ e.symm).elim
      case h_29 => exact (Option.some_ne_none _ e.symm).elim
theorem am_gW {r : am_R} (hcl : ∀ bb q, vwCl[bb]? = some q → am_cls bb q) (hJ : am_JW) (hSL : am_SL) (hSC : am_SC) (hIH : am_IH l G d) (hok : am_okM k) (hC : am_Cx k G p l R s m args meth c) (htab : c.exceptionTable.toList = tableOf (am_hh k)) (hRf : d + 9 ≤ R.frames) (hRl : 40 * d + 200 ≤ R.locals) (hRc : r.2.1 - N0 ≤ R.cells) (hRs : 6 * (r.2.1 - N0) ≤ R.slots) (hlaw : k = qW_law_ → ∃ v h', r = (.inl v, h')) (hE : am_Ends k G p l en R s m args below meth c N0 Q r) :
    ∀ (n b : Nat) (ls st : List Value) (h : am_H) (H : Heap) (locs : List Loc) (rls : Array Slot), am_gN (am_cl d) k n b ls st h = some r → N0 ≤ h.1 → am_L G (am_mL k) rls ls → am_B G h s H locs → W p l en R s m args below meth c H locs (h.1 - N0) (6 * (h.1 - N0)) Q (F0 m (am_pc k b) rls (st.map (am_v G))) := by
  intro n
  induction n with
  | zero => intro b ls st h H locs rls e; simp [am_gN] at e
  | succ n ih =>
    intro b ls st h H locs rls e hN hl hB
    rw [am_pc_eq]
    exact am_exW hcl hJ hSL hSC hIH hC htab hRf hRl hRc hRs hlaw hE (fun b ls st h r' e => am_gN_fr (am_cl_fr d) k n b ls st h r' e) ih _ (am_okM_at hok b) (am_bks_all k b) ls st h H locs rls e hN hl hB
end AME

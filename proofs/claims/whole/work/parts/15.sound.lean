/-! EVERY METHOD KEEPS ITS CONTRACT, by depth -/
theorem am_args {G : am_G} : ∀ (av : List Value) (i : Nat), av.all am_ir = true → ∀ (j : Nat) (v w : Value), av[j]? = some v → am_vo G v = some w → (i + j, w) ∈ lv_args i (av.map (am_v G)) := by
  intro av
  induction av with
  | nil => intro i _ j v w h; simp at h
  | cons u av ih =>
    intro i hall j v w hj hw
    have hu : am_ir u = true := by simp at hall; exact hall.1
    have hall' : av.all am_ir = true := by simp at hall; simpa using hall.2
    have hcat : ¬ (am_v G u).category = 2 := by cases u <;> simp [am_ir, am_v, Value.category] at hu ⊢
    show (i + j, w) ∈ (i, am_v G u) :: lv_args (if (am_v G u).category = 2 then i + 2 else i + 1) (av.map (am_v G))
    rw [if_neg hcat]
    cases j with
    | zero =>
      simp at hj
      subst hj
      have : w = am_v G u := by cases u <;> simp [am_vo, am_v] at hw ⊢ <;> exact hw.symm
      rw [this]
      exact List.mem_cons_self
    | succ j =>
      have := ih (i + 1) hall' j v w (by simpa using hj) hw
      rw [show i + (j + 1) = i + 1 + j by omega]
      exact List.mem_cons_of_mem _ this
theorem am_sl_len {G : am_G} : ∀ (av : List Value), av.all am_ir = true → (lg_sl (av.map (am_v G))).length = av.length := by
  intro av
  induction av with
  | nil => intro _; rfl
  | cons u av ih =>
    intro hall
    have hu : am_ir u = true := by simp at hall; exact hall.1
    have hall' : av.all am_ir = true := by simp at hall; simpa using hall.2
    have hcat : ¬ (am_v G u).category = 2 := by cases u <;> simp [am_ir, am_v, Value.category] at hu ⊢
    have := ih hall'
    unfold lg_sl at this ⊢
    rw [List.map_cons, List.flatMap_cons, if_neg hcat]
    simp at this ⊢
    omega
theorem am_entry {G : am_G} {j : Nat} {av : List Value} (hall : av.all am_ir = true) (hlen : av.length ≤ am_mL j) (m : MethodId) : ∃ rls : Array Slot, entryFrame m (av.map (am_v G)).toArray (am_mL j) = F0 m 0 rls [] ∧ am_L G (am_mL j) rls (am_en j av) := by
  refine ⟨_, lg_entry_eq m (av.map (am_v G)) (am_mL j), ?_, ?_⟩
  · have hl := lv_entry (av.map (am_v G)) (n := am_mL j) (by rw [am_sl_len av hall]; exact hlen)
    refine ⟨hl.1, hl.2.1, fun q hq => hl.2.2 q ?_⟩
    obtain ⟨v, h1, h2⟩ := (am_ll_mem G _ q).mp hq
    unfold am_en at h1
    by_cases hi : q.1 < av.length
    · rw [List.getElem?_append_left hi] at h1
      have := am_args av 0 hall q.1 v q.2 h1 h2
      rw [Nat.zero_add] at this
      exact this
    · rw [List.getElem?_append_right (by omega)] at h1
      have := List.eq_of_mem_replicate (List.mem_of_getElem? h1)
      subst this
      cases h2
  · unfold am_en
    rw [List.length_append, List.length_replicate]
    omega
/-- what the tables say of a method -/
def am_mt (j : Nat) : Prop := plainName (am_y j).cls = true ∧ am_ow j = (am_y j).cls ∧ am_pc j 0 = 0 ∧ am_okM j ∧ ((am_hh j = [] ∧ am_wd j = .code (am_y j) (am_cc j) (am_mL j) (am_rt j)) ∨ am_wd j = .codeWith (am_y j) (am_cc j) (am_mL j) (am_rt j) (am_hh j))
section AMS
variable {p : Program} {l : Launch} {en : Env} {s s₁ : State} {m : MethodId} {args : Array Value} {below : List Frame} {meth : Method} {c : Code} {G : am_G} {d j : Nat} {h : am_H} {r : am_R}
/-- how a method ends -/
theorem am_ends {R : Room} (hC : am_Cx j G p l R s m args meth c) (hret : meth.sig.returnType = am_rt j) (htab : c.exceptionTable.toList = tableOf (am_hh j)) (hx : am_hh j = [] ∨ ∃ v h', r = (.inl v, h')) (hRc : r.2.1 - h.1 ≤ R.cells) (hRs : 6 * (r.2.1 - h.1) ≤ R.slots) :
    am_Ends j G p l en R s m args below meth c h.1 (vx_MQ below (am_Qc G r) (am_XC G r) args s (r.2.1 - h.1) (6 * (r.2.1 - h.1)) (am_A G)) r := by
  have hlocks := hC.2.2.2.2.2.2.2.2.1
  refine ⟨fun v h' H' locs' rls' pc' er hB hok => ?_, fun x h' q ce H' locs' rls' pc' rest er hB g1 g2 g3 => ?_, fun x h' H' locs' rls' pc' st er hB hok hN h8 hsz => ?_⟩
  · subst er
    have hq : ∀ t : State, t.heap = H' → s.WarmedH t.vm → am_Qc G (.inl v, h') args s (.returned (v.map Value.int)) t := fun t ht _ => ⟨⟨v, h', rfl, rfl, by rw [ht]; exact hB.1, hB.2.1⟩, hB.2.2.1.F ht⟩
    refine vx_ret ?_
    cases v with
    | none => exact W.vret hC.1 hC.2.1 (hret.trans hok.2) hq hB.2.2.1.2.2 hok.1 hlocks
    | some x =>
      obtain ⟨d1, hty | ⟨hty, hv⟩⟩ := hok
      · exact W.zret hC.1 hC.2.1 (hret.trans hty) rfl hq hB.2.2.1.2.2 d1 hlocks
      · exact W.zret hC.1 hC.2.1 (hret.trans hty) (am_bit hv).1 hq hB.2.2.1.2.2 d1 hlocks
  · subst er
    rcases hx with hx | ⟨v, h2, e2⟩
    · exact vx_out (E := am_E x) (fun y hy => by rw [htab, hx] at hy; cases hy) hlocks g1 g2 g3 (fun t ht _ => ⟨⟨x, h', rfl, rfl, by rw [ht]; exact hB.1, hB.2.1⟩, hB.2.2.1.F ht⟩) hB.2.2.1.2.2 (Nat.le_refl _) (Nat.le_refl _)
    · cases e2
  · subst er
    rcases hx with hx | ⟨v, h2, e2⟩
    · obtain ⟨ik, is, ic, si, f1, f2, f3, f4, f5, f6, f7, f8, d0, d3, dd⟩ := hok
      have hK := hC.2.2.2.2.2.1
      have hstr := (hK.2.2.1 si f5).1
      rw [f6, f7] at hstr
      have hatL : ∀ {L : List Cond}, (∀ w ∈ L, w ∈ am_T ∨ w ∈ am_NW) → ∀ w ∈ L, w.before args s = true := fun hL w hw => by
        rcases hL w hw with h9 | h9
        · exact hC.2.2.2.2.1 w h9
        · exact am_Nw_use (am_NW_is h9) (hK.2.1 w h9)
      have gT : ∀ w, w ∈ am_T → vx_ot w = true := fun w h9 => by
        unfold vx_ot
        rw [am_T_gw h9, Bool.or_true]
      have gN : ∀ w, w ∈ am_NW → vx_ot w = true := fun w h9 => by
        have := am_NW_is h9
        unfold vx_ot
        cases w <;> first | exact Bool.noConfusion this | rfl
      have hgoodL : ∀ {L : List Cond}, (∀ w ∈ L, w ∈ am_T ∨ w ∈ am_NW) → ∀ w ∈ Cond.classLink (am_ow j) ik (am_E x) :: Cond.initialized (am_E x) :: L, vx_ot w = true := fun hL w hw => by
        rcases List.mem_cons.mp hw with e9 | hw
        · rw [e9]; exact gT _ f3
        rcases List.mem_cons.mp hw with e9 | hw
        · rw [e9]; exact gT _ f4
        · rcases hL w hw with h9 | h9
          · exact gT _ h9
          · exact gN _ h9
      have hXC : ∀ t : State, s.vm.Alike t.vm → H'.size ≤ t.heap.size → (∀ q : Nat, q < H'.size → t.heap[q]? = H'[q]?) → am_XC G (.inr x, am_th h') (am_E x) s t := fun t _ z1 z2 => by
        have hP : va_P G.2.2.1 vwCl (am_ws G h') t.heap := hB.1.kept (fun k q hk => z2 q.1 ((hB.1 k q hk).lt))
        refine ⟨⟨x, am_th h', rfl, rfl, hP, hB.2.1⟩, Nat.le_trans hB.2.2.1.1 z1, fun q h1 h2 => ?_⟩
        rw [z2 q (Nat.lt_of_lt_of_le h1 hB.2.2.1.1)]
        exact hB.2.2.1.2.1 q h1 h2
      have hth : (am_th h').1 = h'.1 + 1 := rfl
      have r1 : h'.1 - h.1 + 1 ≤ R.cells := by have := hRc; rw [hth] at this; omega
      have r2 : 6 * (h'.1 - h.1) + 6 ≤ R.slots := by have := hRs; rw [hth] at this; omega
      have r3 : h'.1 - h.1 + 1 ≤ (am_th h').1 - h.1 := by rw [hth]; omega
      have r4 : 6 * (h'.1 - h.1) + 6 ≤ 6 * ((am_th h').1 - h.1) := by rw [hth]; omega
      have hfr : am_sup.length + 3 < R.frames := by have := hC.2.2.2.2.2.2.2.2.2.1; show 2 + 3 < _; omega
      have hlo : ((st.map (am_v G)).map fun v => v.category).sum + (13 * (am_sup.length + 1) + 43) ≤ R.locals := by rw [am_cs_map]; have := hC.2.2.2.2.2.2.2.2.2.2; show _ + (13 * (2 + 1) + 43) ≤ _; omega
      have ho : ∀ pc9, ∀ y ∈ c.exceptionTable.toList, covers y pc9 = false := fun pc9 y hy => by rw [htab, hx] at hy; cases hy
      have hsz2 : rls'.size = c.maxLocals := hsz.trans hC.2.2.1.symm
      rcases f8 with f8 | ⟨ix, rx, hrx, f8⟩
      · rcases dd with ⟨d4, d6, d9⟩ | ⟨d4, d7, d10⟩
        · exact vx_throwS hC.1 hC.2.1 hC.2.2.2.2.2.2.2.1 hC.2.2.2.1 f1 f2 (hC.2.2.2.2.1 _ f3) (hC.2.2.2.2.1 _ f4) hstr (hatL f8) (hgoodL f8) hK.2.2.2.1 hK.2.2.2.2.1 hB.2.2.1 hsz2 d0 d3 d4 d6 d9 (ho _) hfr hlo r1 r2 hlocks hXC hB.2.2.1.2.2 r3 r4
        · exact vx_throwSW hC.1 hC.2.1 hC.2.2.2.2.2.2.2.1 hC.2.2.2.1 f1 f2 (hC.2.2.2.2.1 _ f3) (hC.2.2.2.2.1 _ f4) hstr (hatL f8) (hgoodL f8) hK.2.2.2.1 hK.2.2.2.2.1 hB.2.2.1 hsz2 d0 d3 d4 d7 d10 (ho _) hfr hlo r1 r2 hlocks hXC hB.2.2.1.2.2 r3 r4
      · have thr : ∀ (pc9 : Nat) (q : Nat) (ce : Cell) (H1 : Heap), decode (am_cc j) pc9 = .ok (.athrow, 1) → H1[q]? = some ce → ce.vm = .none → s.vm.findClass (am_E x) = some ce.cls → H'.size ≤ H1.size → (∀ x : Nat, x < H'.size → H1[x]? = H'[x]?) → va_S (am_A G) s.heap H1 locs' → W p l en R s m args below meth c H1 locs' (h'.1 - h.1 + 1) (6 * (h'.1 - h.1) + 6) (vx_MQ below (am_Qc G (.inr x, am_th h')) (am_XC G (.inr x, am_th h')) args s ((am_th h').1 - h.1) (6 * ((am_th h').1 - h.1)) (am_A G)) (F0 m pc9 rls' (.ref q :: st.map (am_v G))) := fun pc9 q ce H1 dt g1 g2 g3 z1 z2 hS1 => vx_athrow hC.1 hC.2.1 dt (vx_out (E := am_E x) (ho pc9) hlocks g1 g2 g3 (fun t ht ha => hXC t ha (by rw [ht]; exact z1) (fun q hq => by rw [ht]; exact z2 q hq)) hB.2.2.1.2.2 r3 r4)
        rcases dd with ⟨d4, d6, d9⟩ | ⟨d4, d7, d10⟩
        · exact am_makeX (wd := 2) hC.1 hC.2.1 hC.2.2.2.2.2.2.2.1 hC.2.2.2.1 f1 hrx (f2 _ (by decide)) (fun n hn => f2 n (List.mem_cons_of_mem _ hn)) (hC.2.2.2.2.1 _ f3) (hC.2.2.2.2.1 _ f4) hstr (hatL f8) (hgoodL f8) hK.2.2.2.1 hK.2.2.2.2.1 hB.2.2.1 hsz2 d0 d3 (Or.inl ⟨rfl, d4⟩) d6 hfr hlo r1 r2 (fun q ce H1 g1 g2 g3 z1 z2 hS1 => thr _ q ce H1 d9 g1 g2 g3 z1 z2 hS1)
        · exact am_makeX (wd := 3) hC.1 hC.2.1 hC.2.2.2.2.2.2.2.1 hC.2.2.2.1 f1 hrx (f2 _ (by decide)) (fun n hn => f2 n (List.mem_cons_of_mem _ hn)) (hC.2.2.2.2.1 _ f3) (hC.2.2.2.2.1 _ f4) hstr (hatL f8) (hgoodL f8) hK.2.2.2.1 hK.2.2.2.2.1 hB.2.2.1 hsz2 d0 d3 (Or.inr ⟨rfl, d4⟩) d7 hfr hlo r1 r2 (fun q ce H1 g1 g2 g3 z1 z2 hS1 => thr _ q ce H1 d10 g1 g2 g3 z1 z2 hS1)
    · cases e2
theorem am_body (hcl : ∀ bb q, vwCl[bb]? = some q → am_cls bb q) (hJ : am_JW) (hSL : am_SL) (hSC : am_SC) (htr : l.stackTraces = false) (hIH : am_IH l G d) (hmt : am_mt j) (hlw : j ≠ qW_law_) {av : List Value} (e : am_cl (d + 1) j av h = some r) (hx : am_hh j = [] ∨ ∃ v h', r = (.inl v, h'))
    (B : BodyLoose p l (am_y j) (headSpec (am_w j) (am_rm (d + 1) (r.2.1 - h.1))) (am_cc j) (am_mL j) (am_rt j) en s m args below meth c s₁) (hml : c.maxLocals = am_mL j) (htab : c.exceptionTable.toList = tableOf (am_hh j)) (hPc : am_Pc G av h args s) :
    W p l en (headSpec (am_w j) (am_rm (d + 1) (r.2.1 - h.1))).room s m args below meth c s.heap [] 0 0 (vx_MQ below (am_Qc G r) (am_XC G r) args s (r.2.1 - h.1) (6 * (r.2.1 - h.1)) (am_A G)) (entryFrame m args (am_mL j)) := by
  obtain ⟨rfl, hP, hD, hK, hX, hS0⟩ := hPc
  obtain ⟨m1, m2, m3, m4, m5⟩ := hmt
  unfold am_cl at e
  split at e
  · rename_i hcond
    obtain ⟨hall, hlen⟩ := hcond
    obtain ⟨n, e⟩ := am_go_some.mp e
    have hts := atoms_spec (ws := am_w j) B.pre
    have hown : s.vm.findClass (am_ow j) = some m.cls := by rw [m2]; exact findClass_of_methodNamed B.named
    have hC : am_Cx j G p l (am_rm (d + 1) (r.2.1 - h.1)) s m (av.map (am_v G)).toArray meth c := ⟨B.exec, B.bytes, hml, hown, fun w hw => hts w (List.mem_cons_of_mem _ hw), hK, hS0, htr, B.notSynchronized, by show 8 ≤ d + 1 + 8; omega, by show 160 ≤ 40 * (d + 1) + 160; omega⟩
    obtain ⟨rls, ef, hl⟩ := am_entry (G := G) hall hlen m
    rw [ef]
    have hB : am_B G h s s.heap [] := ⟨hP, hD, va_S.rf, hX⟩
    have w := am_gW (N0 := h.1) hcl hJ hSL hSC hIH m4 hC htab (by show d + 9 ≤ d + 1 + 8; omega) (by show 40 * d + 200 ≤ 40 * (d + 1) + 160; omega) (Nat.le_refl _) (Nat.le_refl _) (fun q => absurd q hlw) (am_ends (en := en) (below := below) hC B.returns htab hx (Nat.le_refl _) (Nat.le_refl _)) n 0 (am_en j av) [] h s.heap [] rls e (Nat.le_refl _) hl hB
    rw [m3, Nat.sub_self] at w
    exact w
  · exact (Option.some_ne_none _ e.symm).elim
theorem am_blL_len : am_blL.length = am_nM := by decide +kernel
theorem am_sound (hcl : ∀ bb q, vwCl[bb]? = some q → am_cls bb q) (hJ : am_JW) (hSL : am_SL) (hSC : am_SC) (htr : l.stackTraces = false) (hmt : ∀ j, j < am_nM → j ≠ qW_law_ → am_mt j) : ∀ d, am_IH l G d := by
  intro d
  induction d with
  | zero => intro j av h r e; simp [am_cl] at e
  | succ d ih =>
    intro j av h r e hx
    have hj : j < am_nM ∧ j ≠ qW_law_ := by
      refine ⟨?_, hx.elim (fun q => q.2) (fun q => q.2)⟩
      rcases Nat.lt_or_ge j am_nM with q | q
      · exact q
      · have hbl : am_bl j = [] := by
          unfold am_bl
          rw [List.getD_eq_getElem?_getD, List.getElem?_eq_none (by rw [am_blL_len]; exact q)]
          rfl
        exfalso
        unfold am_cl at e
        split at e
        · rw [am_go_q hbl] at e
          exact Option.some_ne_none _ e.symm
        · exact Option.some_ne_none _ e.symm
    have hx : am_hh j = [] ∨ ∃ v h', r = (.inl v, h') := by
      rcases hx with hx | hx
      · exact Or.inl hx.1
      · exact Or.inr hx.1
    have mt := hmt j hj.1 hj.2
    rcases mt.2.2.2.2 with ⟨hh, hw⟩ | hw
    · refine vx_ofW (cc := am_cc j) (maxL := am_mL j) (ret := am_rt j) (ws' := am_T) mt.1 (by show am_wd j :: am_T = _; rw [hw]) ?_
      intro p e s m args below meth c s₁ B hml ht hPc
      exact am_body hcl hJ hSL hSC htr ih mt hj.2 (by assumption) hx B hml (by rw [hh]; cases ht2 : c.exceptionTable.toList with | nil => rfl | cons y ys => exact (ht y (by rw [ht2]; exact List.mem_cons_self)).elim) hPc
    · refine vx_ofWH (cc := am_cc j) (maxL := am_mL j) (ret := am_rt j) (hh := am_hh j) (ws' := am_T) mt.1 (by show am_wd j :: am_T = _; rw [hw]) ?_
      intro p e s m args below meth c s₁ B hml hPc
      exact am_body hcl hJ hSL hSC htr ih mt hj.2 (by assumption) hx B hml (vx_table (x := am_y j) B (atoms_spec (ws := am_w j) B.pre _ (by show _ ∈ am_wd j :: am_T; rw [hw]; exact List.mem_cons_self))) hPc
end AMS

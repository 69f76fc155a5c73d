/-! CALLS over the machine, by the callee's contract am_M -/
theorem am_good {w : Cond} (h : w ∈ am_T) : w ∈ am_T ∧ ((w.onTables && w.keeps) = true ∨ ∃ ty, w = .arrayClass ty) := ⟨h, am_T_good h⟩
theorem am_goodIn {ws : List Cond} (h : ∀ w ∈ ws, w ∈ am_T) : GoodIn am_T ws := fun w hw => am_good (h w hw)
/-- the callee's own words -/
theorem am_w_in {j : Nat} (h : am_wd j ∈ am_T) : ∀ w ∈ am_w j, w ∈ am_T := fun w hw => by
  rcases List.mem_cons.mp hw with e | e
  · rw [e]; exact h
  · exact e
/-- what a callee is, in the tables -/
abbrev am_cal (j n : Nat) : Prop := am_wd j = .code (am_y j) (am_cc j) (am_mL j) (am_rt j) ∧ am_wd j ∈ am_T ∧ (am_y j).cls ≠ "java/lang/invoke/MethodHandle" ∧ (am_y j).cls ≠ "java/lang/invoke/VarHandle" ∧ (parseMethodDescriptor (am_y j).desc).map (fun d => d.parameters.length) = some n ∧ am_mL j ≤ 20
abbrev am_calW (j n : Nat) (hh : List (Nat × Nat × Nat × Nat)) : Prop := am_wd j = .codeWith (am_y j) (am_cc j) (am_mL j) (am_rt j) hh ∧ am_wd j ∈ am_T ∧ (am_y j).cls ≠ "java/lang/invoke/MethodHandle" ∧ (am_y j).cls ≠ "java/lang/invoke/VarHandle" ∧ (parseMethodDescriptor (am_y j).desc).map (fun d => d.parameters.length) = some n ∧ am_mL j ≤ 20
abbrev am_okS (κ : am_Kt) (pc np j n : Nat) : Prop := am_cal j n ∧ ∃ idx, decode κ.1 pc = .ok (.invokestatic idx, 3) ∧ np = pc + 3 ∧ Cond.methodLink κ.2.1 idx (am_y j) ∈ am_T ∧ Cond.static (am_y j) ∈ am_T ∧ Cond.initialized (am_y j).cls ∈ am_T
abbrev am_okSW (κ : am_Kt) (pc np j n : Nat) : Prop := ∃ hh, am_calW j n hh ∧ ∃ idx, decode κ.1 pc = .ok (.invokestatic idx, 3) ∧ np = pc + 3 ∧ Cond.methodLink κ.2.1 idx (am_y j) ∈ am_T ∧ Cond.static (am_y j) ∈ am_T ∧ Cond.initialized (am_y j).cls ∈ am_T
abbrev am_okN (κ : am_Kt) (pc np j n : Nat) : Prop := am_cal j n ∧ ∃ idx host, decode κ.1 pc = .ok (.invokestatic idx, 3) ∧ np = pc + 3 ∧ Cond.methodLinkNest κ.2.1 idx (am_y j) host ∈ am_NW ∧ Cond.static (am_y j) ∈ am_T ∧ Cond.initialized (am_y j).cls ∈ am_T
abbrev am_okV (κ : am_Kt) (pc np j n z : Nat) : Prop := am_cal j n ∧ z < 11 ∧ (∃ q, vwCl[z]? = some q ∧ q.1 = (am_y j).cls) ∧ ∃ idx, decode κ.1 pc = .ok (.invokevirtual idx, 3) ∧ np = pc + 3 ∧ Cond.methodLink κ.2.1 idx (am_y j) ∈ am_T ∧ Cond.instanceMethod (am_y j) ∈ am_T ∧ Cond.selects (am_y j).cls (am_y j) (am_y j) ∈ am_T ∧ Cond.initialized (am_y j).cls ∈ am_T
/-- an inherited method, named by x, found in owner, run for an object of the kind z -/
abbrev am_okU (κ : am_Kt) (pc np j n z : Nat) : Prop := am_cal j n ∧ z < 11 ∧ ∃ (q : vw_C) (x : MethodName) (owner : String) (idx : Nat), vwCl[z]? = some q ∧ am_y j = ⟨owner, x.name, x.desc⟩ ∧ decode κ.1 pc = .ok (.invokevirtual idx, 3) ∧ np = pc + 3 ∧ Cond.methodLink κ.2.1 idx x ∈ am_T ∧ Cond.sameMethod x.cls owner x.name x.desc ∈ am_T ∧ Cond.selects q.1 x (am_y j) ∈ am_T ∧ Cond.instanceMethod (am_y j) ∈ am_T ∧ Cond.initialized (am_y j).cls ∈ am_T
/-- an abstract method of Text, run for an object of the kind z -/
abbrev am_okA (κ : am_Kt) (pc np j n z : Nat) : Prop := am_cal j n ∧ z < 11 ∧ ∃ (q : vw_C) (x : MethodName) (owner : String) (idx : Nat), vwCl[z]? = some q ∧ Cond.declares ⟨owner, x.name, x.desc⟩ ∈ am_NW ∧ owner ≠ "java/lang/invoke/MethodHandle" ∧ owner ≠ "java/lang/invoke/VarHandle" ∧ (parseMethodDescriptor x.desc).map (fun d => d.parameters.length) = some n ∧ decode κ.1 pc = .ok (.invokevirtual idx, 3) ∧ np = pc + 3 ∧ Cond.methodLink κ.2.1 idx x ∈ am_T ∧ Cond.sameMethod x.cls owner x.name x.desc ∈ am_T ∧ Cond.selects q.1 x (am_y j) ∈ am_T ∧ Cond.instanceMethod (am_y j) ∈ am_T ∧ Cond.initialized (am_y j).cls ∈ am_T
section AMC
variable {p : Program} {l : Launch} {en : Env} {R : Room} {s : State} {m : MethodId} {args : Array Value} {below : List Frame} {meth : Method} {c : Code} {H : Heap} {locs : List Loc} {cells slots : Nat} {Q : State → Prop} {G : am_G} {k pc np d : Nat} {rls : Array Slot} {h : am_H} {st : List Value}
/-- the heap here is what a callee finds -/
theorem am_B.inv (hC : am_Cx k G p l R s m args meth c) (hB : am_B G h s H locs) {U : State} (hU : U.heap = H) (hW : s.WarmedH U.vm) : am_Inv G h U := by
  obtain ⟨b1, b2, b3, b4⟩ := hB
  have hk : am_K G s H := hC.2.2.2.2.2.1.kept b3.2.1
  have hx : am_X G h s H := b4.kept b3.1 b3.2.1
  refine ⟨by rw [hU]; exact b1, b2, by rw [hU]; exact hk.warm hW, by rw [hU]; exact hx.moved hW.alike, ?_⟩
  rw [hU]
  exact Nat.le_trans hC.2.2.2.2.2.2.1 b3.1
/-- behind a call -/
theorem am_B.back (hB : am_B G h s H locs) {h' : am_H} (hf : am_fr h h') {st₀ t T' : State} {L : List Loc} (h0 : st₀.heap = H) (e1 : T'.heap = t.heap) (hL : ∀ q ∈ L, am_A G q.base) (hF : va_F (am_A G) st₀ t) (hP : va_P G.2.2.1 vwCl (am_ws G h') t.heap) (hD : va_D (am_A G) (am_ws G h')) : am_B G h' s T'.heap (locs ++ L) := by
  obtain ⟨-, -, k3⟩ := vx_keep h0 e1 hB.2.2.1 (fun _ _ h => h) (fun _ h => h) hL hF
  exact ⟨by rw [e1]; exact hP, hD, k3, hB.2.2.2.fr hf⟩
theorem am_callX {r : am_R} {mc ms : Nat} {st0 rest : List Value} {a : Array Value} (hr : vx_Run p l en R s m args below meth c H locs cells slots mc ms (F0 m pc rls st0) rest (am_Qc G r a) (am_XC G r) (am_A G)) (hB : am_B G h s H locs) (hf : am_fr h r.2)
    (kx : ∀ (x : Nat) (h' : am_H) (q : Addr) (ce : Cell) (H1 : Heap) (locs1 : List Loc), r = (.inr x, h') → am_B G h' s H1 locs1 → H1[q]? = some ce → ce.vm = .none → s.vm.findClass (am_E x) = some ce.cls → vx_W p l en R s m args below meth c H1 locs1 (cells + mc) (slots + ms) Q (F0 m pc rls rest) q)
    (kk : ∀ (v : Option Int32) (h' : am_H) (H1 : Heap) (locs1 : List Loc), r = (.inl v, h') → am_B G h' s H1 locs1 → W p l en R s m args below meth c H1 locs1 (cells + mc) (slots + ms) Q (F0 m (pc + 3) rls ((v.map Value.int).toList ++ rest))) : W p l en R s m args below meth c H locs cells slots Q (F0 m pc rls st0) := by
  intro T hT X
  rcases hr T hT X with ⟨v, st₀, t, T', L, h0, X', hL, e1, e2, ⟨⟨v', h', rfl, hv, hP, hD⟩, hF⟩, st⟩ | ⟨q, st₀, t, T', L, E, ce, h0, X', hL, e1, e2, ⟨⟨x, h', rfl, rfl, hP, hD⟩, hF⟩, hce, hcv, hcl, st⟩
  · cases hv
    obtain ⟨t2, a1, b1⟩ := kk v' h' T'.heap (locs ++ L) rfl (hB.back hf h0 e1 hL hF hP hD) T' rfl X'
    exact ⟨t2, st t2 a1, b1⟩
  · obtain ⟨t2, a1, b1⟩ := kx x h' q ce T'.heap (locs ++ L) rfl (hB.back hf h0 e1 hL hF hP hD) (by rw [e1]; exact hce) hcv hcl T' rfl X'
    exact ⟨t2, st.trans a1, b1⟩
theorem am_callN {r : am_R} {mc ms : Nat} {st0 rest : List Value} {a : Array Value} (hr : va_Run p l en R s m args below meth c H locs cells slots mc ms (F0 m pc rls st0) rest (am_Qc G r a) (am_A G)) (hB : am_B G h s H locs) (hf : am_fr h r.2)
    (kk : ∀ (v : Option Int32) (h' : am_H) (H1 : Heap) (locs1 : List Loc), r = (.inl v, h') → am_B G h' s H1 locs1 → W p l en R s m args below meth c H1 locs1 (cells + mc) (slots + ms) Q (F0 m (pc + 3) rls ((v.map Value.int).toList ++ rest))) : W p l en R s m args below meth c H locs cells slots Q (F0 m pc rls st0) := by
  intro T hT X
  obtain ⟨v, st₀, t, T', L, h0, X', hL, e1, e2, ⟨⟨v', h', rfl, hv, hP, hD⟩, hF⟩, st⟩ := hr T hT X
  cases hv
  obtain ⟨t2, a1, b1⟩ := kk v' h' T'.heap (locs ++ L) rfl (hB.back hf h0 e1 hL hF hP hD) T' rfl X'
  exact ⟨t2, st t2 a1, b1⟩
/-- a callee that returns -/
theorem am_M.met {j : Nat} {av : List Value} {v : Option Int32} {h' : am_H} (hM : am_M l G d j av h (.inl v, h')) : Met l (am_y j) (am_w j) (am_rm d (h'.1 - h.1)) (am_Pc G av h) (am_Qc G (.inl v, h')) (h'.1 - h.1) (6 * (h'.1 - h.1)) (am_A G) := by
  refine MetFree.mono hM (fun _ _ h => h) (fun _ _ _ _ _ h => h) (fun a s o s' _ hq => ?_)
  rcases hq with hq | ⟨q, -, E, ce, L, ⟨⟨x, h2, e2, -⟩, -⟩, -⟩
  · exact hq
  · cases e2
theorem am_roomOk (hRf : d + 9 ≤ R.frames) (hRl : 40 * d + 200 ≤ R.locals) (j mc : Nat) (hj : am_mL j ≤ 20) : (am_rm d mc).frames + 1 ≤ R.frames ∧ 8 + (am_mL j + 11) + (am_rm d mc).locals ≤ R.locals := by
  constructor
  · show d + 8 + 1 ≤ _
    omega
  · show 8 + (am_mL j + 11) + (40 * d + 160) ≤ _
    omega
theorem am_Pc_of {av : List Value} {v : List Value} (hC : am_Cx k G p l R s m args meth c) (hB : am_B G h s H locs) (hv : v = av.map (am_v G)) : ∀ U : State, U.heap = H → s.WarmedH U.vm → am_Pc G av h v.toArray U := fun U hU hW => ⟨by rw [hv], hB.inv hC hU hW⟩
theorem am_runS {j n : Nat} {r : am_R} {Bs rest : List Value} (hok : am_okS (am_kt k) pc np j n) (hC : am_Cx k G p l R s m args meth c) (hRf : d + 9 ≤ R.frames) (hRl : 40 * d + 200 ≤ R.locals) (hsz : rls.size = am_mL k) (hB : am_B G h s H locs) (hM : am_M l G d j Bs h r) (hn : Bs.length = n) (h8 : am_cs rest ≤ 8) (hc : cells + (r.2.1 - h.1) ≤ R.cells) (hs : slots + 6 * (r.2.1 - h.1) ≤ R.slots) :
    vx_Run p l en R s m args below meth c H locs cells slots (r.2.1 - h.1) (6 * (r.2.1 - h.1)) (F0 m pc rls ((Bs.reverse ++ rest).map (am_v G))) (rest.map (am_v G)) (am_Qc G r (Bs.map (am_v G)).toArray) (am_XC G r) (am_A G) := by
  obtain ⟨⟨w1, w2, w3, w4, w5, w6⟩, idx, hd, -, l1, l2, l3⟩ := hok
  have hT : GoodIn am_T (va_wsS (am_ow k) idx (am_y j) (am_w j)) := am_goodIn (fun w hw => by
    simp only [va_wsS, List.cons_append, List.nil_append, List.mem_cons] at hw
    rcases hw with e | e | e | e
    · rw [e]; exact l1
    · rw [e]; exact l2
    · rw [e]; exact l3
    · exact am_w_in w2 w e)
  refine vx_runS (As := Bs.map (am_v G)) (Ts := am_T) (own := am_ow k) (nL := am_mL k) (cc := am_cc k) ⟨hC.1, hC.2.1, hC.2.2.1, hC.2.2.2.1, hC.2.2.2.2.1⟩ hM (va_cwS n hC.2.2.2.2.1 hT (by show am_wd j :: am_T = _; rw [w1]) rfl rfl ⟨w3, w4, w5⟩ (am_roomOk hRf hRl j _ w6)) ⟨am_Pc.blind G Bs h, am_Pc_of hC hB rfl⟩ rfl (by rw [List.length_map]; exact hn) hsz (by simp [List.map_reverse]) (lv_room (by rw [am_cs_map]; exact h8)) hd ⟨hc, hs⟩
theorem am_runSW {j n : Nat} {r : am_R} {Bs rest : List Value} (hok : am_okSW (am_kt k) pc np j n) (hC : am_Cx k G p l R s m args meth c) (hRf : d + 9 ≤ R.frames) (hRl : 40 * d + 200 ≤ R.locals) (hsz : rls.size = am_mL k) (hB : am_B G h s H locs) (hM : am_M l G d j Bs h r) (hn : Bs.length = n) (h8 : am_cs rest ≤ 8) (hc : cells + (r.2.1 - h.1) ≤ R.cells) (hs : slots + 6 * (r.2.1 - h.1) ≤ R.slots) :
    vx_Run p l en R s m args below meth c H locs cells slots (r.2.1 - h.1) (6 * (r.2.1 - h.1)) (F0 m pc rls ((Bs.reverse ++ rest).map (am_v G))) (rest.map (am_v G)) (am_Qc G r (Bs.map (am_v G)).toArray) (am_XC G r) (am_A G) := by
  obtain ⟨hh, ⟨w1, w2, w3, w4, w5, w6⟩, idx, hd, -, l1, l2, l3⟩ := hok
  have hT : GoodIn am_T (va_wsS (am_ow k) idx (am_y j) (am_w j)) := am_goodIn (fun w hw => by
    simp only [va_wsS, List.cons_append, List.nil_append, List.mem_cons] at hw
    rcases hw with e | e | e | e
    · rw [e]; exact l1
    · rw [e]; exact l2
    · rw [e]; exact l3
    · exact am_w_in w2 w e)
  refine vx_runSX (hh := hh) (As := Bs.map (am_v G)) (Ts := am_T) (own := am_ow k) (nL := am_mL k) (cc := am_cc k) ⟨hC.1, hC.2.1, hC.2.2.1, hC.2.2.2.1, hC.2.2.2.2.1⟩ hM (vx_cwSW n hC.2.2.2.2.1 hT (by show am_wd j :: am_T = _; rw [w1]) rfl rfl ⟨w3, w4, w5⟩ (am_roomOk hRf hRl j _ w6)) ⟨am_Pc.blind G Bs h, am_Pc_of hC hB rfl⟩ rfl (by rw [List.length_map]; exact hn) hsz (by simp [List.map_reverse]) (lv_room (by rw [am_cs_map]; exact h8)) hd ⟨hc, hs⟩
theorem am_runN {j n : Nat} {v : Option Int32} {h' : am_H} {Bs rest : List Value} (hok : am_okN (am_kt k) pc np j n) (hC : am_Cx k G p l R s m args meth c) (hRf : d + 9 ≤ R.frames) (hRl : 40 * d + 200 ≤ R.locals) (hsz : rls.size = am_mL k) (hB : am_B G h s H locs) (hM : am_M l G d j Bs h (.inl v, h')) (hn : Bs.length = n) (h8 : am_cs rest ≤ 8) (hc : cells + (h'.1 - h.1) ≤ R.cells) (hs : slots + 6 * (h'.1 - h.1) ≤ R.slots) :
    va_Run p l en R s m args below meth c H locs cells slots (h'.1 - h.1) (6 * (h'.1 - h.1)) (F0 m pc rls ((Bs.reverse ++ rest).map (am_v G))) (rest.map (am_v G)) (am_Qc G (.inl v, h') (Bs.map (am_v G)).toArray) (am_A G) := by
  obtain ⟨⟨w1, w2, w3, w4, w5, w6⟩, idx, host, hd, -, l1, l2, l3⟩ := hok
  have hcw : va_CN R s args (am_ow k) idx (am_y j) host (am_cc j) (am_mL j) (am_rt j) (am_w j) (am_rm d (h'.1 - h.1)) (h'.1 - h.1) (6 * (h'.1 - h.1)) n := va_cnB n hC.2.2.2.2.1 (am_goodIn (am_w_in w2)) (by show am_wd j :: am_T = _; rw [w1]) rfl rfl (hC.2.2.2.2.2.1.2.1 _ l1) (hC.2.2.2.2.1 _ l3) ⟨w3, w4, w5⟩ (am_roomOk hRf hRl j _ w6)
  exact va_runSN (As := Bs.map (am_v G)) (Ts := am_T) (own := am_ow k) (nL := am_mL k) (cc := am_cc k) ⟨hC.1, hC.2.1, hC.2.2.1, hC.2.2.2.1, hC.2.2.2.2.1⟩ hM.met ⟨hcw, hC.2.2.2.2.1 _ l2, trivial⟩ ⟨am_Pc.blind G Bs h, am_Pc_of hC hB rfl⟩ rfl (by rw [List.length_map]; exact hn) hsz (by simp [List.map_reverse]) (lv_room (by rw [am_cs_map]; exact h8)) hd ⟨hc, hs⟩
/-- the receiver stands in the heap -/
theorem am_recv {o z : Nat} {q : vw_C} (hC : am_Cx k G p l R s m args meth c) (hB : am_B G h s H locs) (hz : z < 11) (hq : vwCl[z]? = some q) (ho : am_kd o = z) : ∃ cell : Cell, H[G.1 o]? = some cell ∧ cell.vm.isStatics = false ∧ s.vm.findClass q.1 = some cell.cls :=
  va_recv hC.2.2.2.2.2.1.1 hB.1 hq (q0 := o) (fs := am_fs G h o) (by rw [am_ws_at G h (am_kd_lt (by omega)), am_ce_ob G h ho hz])
theorem am_runV {j n z o : Nat} {r : am_R} {Bs rest : List Value} (hok : am_okV (am_kt k) pc np j n z) (ho : am_kd o = z) (hC : am_Cx k G p l R s m args meth c) (hRf : d + 9 ≤ R.frames) (hRl : 40 * d + 200 ≤ R.locals) (hsz : rls.size = am_mL k) (hB : am_B G h s H locs) (hM : am_M l G d j (.ref o :: Bs) h r) (hn : Bs.length = n) (h8 : am_cs rest ≤ 8) (hc : cells + (r.2.1 - h.1) ≤ R.cells) (hs : slots + 6 * (r.2.1 - h.1) ≤ R.slots) :
    vx_Run p l en R s m args below meth c H locs cells slots (r.2.1 - h.1) (6 * (r.2.1 - h.1)) (F0 m pc rls ((Bs.reverse ++ .ref o :: rest).map (am_v G))) (rest.map (am_v G)) (am_Qc G r ((.ref o :: Bs).map (am_v G)).toArray) (am_XC G r) (am_A G) := by
  obtain ⟨⟨w1, w2, w3, w4, w5, w6⟩, hz, ⟨q, hq, hqc⟩, idx, hd, -, l1, l2, l3, l4⟩ := hok
  have hT : GoodIn am_T (wsV (am_ow k) idx (am_y j).cls (am_y j) (am_w j)) := am_goodIn (fun w hw => by
    simp only [wsV, List.cons_append, List.nil_append, List.mem_cons] at hw
    rcases hw with e | e | e | e | e
    · rw [e]; exact l1
    · rw [e]; exact l2
    · rw [e]; exact l3
    · rw [e]; exact l4
    · exact am_w_in w2 w e)
  have hrv := am_recv hC hB hz hq ho
  rw [hqc] at hrv
  exact vx_runV (As := Bs.map (am_v G)) (Ts := am_T) (own := am_ow k) (nL := am_mL k) (cc := am_cc k) (C := (am_y j).cls) ⟨hC.1, hC.2.1, hC.2.2.1, hC.2.2.2.1, hC.2.2.2.2.1⟩ hM (cwV n hC.2.2.2.2.1 hT (by show am_wd j :: am_T = _; rw [w1]) rfl rfl ⟨rfl, w3, w4, w5⟩ (am_roomOk hRf hRl j _ w6)) ⟨am_Pc.blind G _ h, hrv, am_Pc_of hC hB rfl⟩ rfl (by rw [List.length_map]; exact hn) hsz (by simp [List.map_reverse, am_v]) (lv_room (by rw [am_cs_map]; exact h8)) hd ⟨hc, hs⟩
theorem am_runU {j n z o : Nat} {v : Option Int32} {h' : am_H} {Bs rest : List Value} (hok : am_okU (am_kt k) pc np j n z) (ho : am_kd o = z) (hC : am_Cx k G p l R s m args meth c) (hRf : d + 9 ≤ R.frames) (hRl : 40 * d + 200 ≤ R.locals) (hsz : rls.size = am_mL k) (hB : am_B G h s H locs) (hM : am_M l G d j (.ref o :: Bs) h (.inl v, h')) (hn : Bs.length = n) (h8 : am_cs rest ≤ 8) (hc : cells + (h'.1 - h.1) ≤ R.cells) (hs : slots + 6 * (h'.1 - h.1) ≤ R.slots) :
    va_Run p l en R s m args below meth c H locs cells slots (h'.1 - h.1) (6 * (h'.1 - h.1)) (F0 m pc rls ((Bs.reverse ++ .ref o :: rest).map (am_v G))) (rest.map (am_v G)) (am_Qc G (.inl v, h') ((.ref o :: Bs).map (am_v G)).toArray) (am_A G) := by
  obtain ⟨⟨w1, w2, w3, w4, w5, w6⟩, hz, q, x, owner, idx, hq, hyx, hd, -, l1, l2, l3, l4, l5⟩ := hok
  have hT : GoodIn am_T (va_wsU (am_ow k) idx q.1 owner x (am_y j) (am_w j)) := am_goodIn (fun w hw => by
    simp only [va_wsU, List.cons_append, List.nil_append, List.mem_cons] at hw
    rcases hw with e | e | e | e | e | e
    · rw [e]; exact l1
    · rw [e]; exact l2
    · rw [e]; exact l3
    · rw [e]; exact l4
    · rw [e]; exact l5
    · exact am_w_in w2 w e)
  have e1 : (am_y j).cls = owner := by rw [hyx]
  have e2 : (am_y j).desc = x.desc := by rw [hyx]
  rw [e1] at w3 w4
  rw [e2] at w5
  exact va_runU (As := Bs.map (am_v G)) (Ts := am_T) (own := am_ow k) (nL := am_mL k) (cc := am_cc k) (C := q.1) ⟨hC.1, hC.2.1, hC.2.2.1, hC.2.2.2.1, hC.2.2.2.2.1⟩ hM.met (va_cwU n hC.2.2.2.2.1 hT (by show am_wd j :: am_T = _; rw [w1]) rfl rfl hyx ⟨w3, w4, w5⟩ (am_roomOk hRf hRl j _ w6)) ⟨am_Pc.blind G _ h, am_recv hC hB hz hq ho, am_Pc_of hC hB rfl⟩ rfl (by rw [List.length_map]; exact hn) hsz (by simp [List.map_reverse, am_v]) (lv_room (by rw [am_cs_map]; exact h8)) hd ⟨hc, hs⟩
theorem am_runA {j n z o : Nat} {v : Option Int32} {h' : am_H} {Bs rest : List Value} (hok : am_okA (am_kt k) pc np j n z) (ho : am_kd o = z) (hC : am_Cx k G p l R s m args meth c) (hRf : d + 9 ≤ R.frames) (hRl : 40 * d + 200 ≤ R.locals) (hsz : rls.size = am_mL k) (hB : am_B G h s H locs) (hM : am_M l G d j (.ref o :: Bs) h (.inl v, h')) (hn : Bs.length = n) (h8 : am_cs rest ≤ 8) (hc : cells + (h'.1 - h.1) ≤ R.cells) (hs : slots + 6 * (h'.1 - h.1) ≤ R.slots) :
    va_Run p l en R s m args below meth c H locs cells slots (h'.1 - h.1) (6 * (h'.1 - h.1)) (F0 m pc rls ((Bs.reverse ++ .ref o :: rest).map (am_v G))) (rest.map (am_v G)) (am_Qc G (.inl v, h') ((.ref o :: Bs).map (am_v G)).toArray) (am_A G) := by
  obtain ⟨⟨w1, w2, -, -, -, w6⟩, hz, q, x, owner, idx, hq, hdc, w3, w4, w5, hd, -, l1, l2, l3, l4, l5⟩ := hok
  have hT : GoodIn am_T (va_wsU (am_ow k) idx q.1 owner x (am_y j) (am_w j)) := am_goodIn (fun w hw => by
    simp only [va_wsU, List.cons_append, List.nil_append, List.mem_cons] at hw
    rcases hw with e | e | e | e | e | e
    · rw [e]; exact l1
    · rw [e]; exact l2
    · rw [e]; exact l3
    · rw [e]; exact l4
    · rw [e]; exact l5
    · exact am_w_in w2 w e)
  exact va_runU (As := Bs.map (am_v G)) (Ts := am_T) (own := am_ow k) (nL := am_mL k) (cc := am_cc k) (C := q.1) ⟨hC.1, hC.2.1, hC.2.2.1, hC.2.2.2.1, hC.2.2.2.2.1⟩ hM.met (va_cwA n hC.2.2.2.2.1 hT (by show am_wd j :: am_T = _; rw [w1]) rfl rfl (hC.2.2.2.2.2.1.2.1 _ hdc) ⟨w3, w4, w5⟩ (am_roomOk hRf hRl j _ w6)) ⟨am_Pc.blind G _ h, am_recv hC hB hz hq ho, am_Pc_of hC hB rfl⟩ rfl (by rw [List.length_map]; exact hn) hsz (by simp [List.map_reverse, am_v]) (lv_room (by rw [am_cs_map]; exact h8)) hd ⟨hc, hs⟩
end AMC

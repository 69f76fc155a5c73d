/-! the start's contracts: what a constructor does, by its trace -/
theorem va_AOA.moved {ty : FieldType} {u U : State} (hvm : u.vm.Alike U.vm) (h : va_AOA ty u) : va_AOA ty U := (Cond.arrayOver_setVmC (args := #[]) (s := u) hvm (.array ty)).trans h
theorem ct_K.same {G : am_G} {u U : State} (hv : u.vm = U.vm) (h : ct_K G u) : ct_K G U := by
  have ha : u.vm.Alike U.vm := by rw [← hv]; exact Vm.Alike.refl _
  exact ⟨va_K.moved ha h.1, fun w hw => am_Nw_same (am_NW_is hw) hv (h.2.1 w hw), va_AOA.moved ha h.2.2.1, va_AO.moved ha h.2.2.2.1, h.2.2.2.2⟩
theorem ct_K.warm {G : am_G} {s U : State} (hW : s.WarmedH U.vm) (h : ct_K G s) : ct_K G U :=
  ⟨va_K.moved hW.alike h.1, fun w hw => am_Nw_warm (am_NW_is hw) hW (h.2.1 w hw), va_AOA.moved hW.alike h.2.2.1, va_AO.moved hW.alike h.2.2.2.1, h.2.2.2.2⟩
def ct_Pc (G : am_G) (av : List Value) (w : ct_W) : Array Value → State → Prop := fun v U => v = (av.map (am_v G)).toArray ∧ va_P G.2.2.1 vwCl (ct_ws G w) U.heap ∧ U.heap.size = G.2.2.2.2 + w.length ∧ ct_K G U
theorem ct_Pc.blind (G : am_G) (av : List Value) (w : ct_W) : FrameBlind (ct_Pc G av w) := fun a U g mk q => ⟨q.1, q.2.1, q.2.2.1, ct_K.same (u := U) (U := U.calling g mk a) rfl q.2.2.2⟩
def ct_Qc (G : am_G) (w : ct_W) : Array Value → State → Outcome → State → Prop := fun _ st oc t => (oc = .returned none ∧ va_P G.2.2.1 vwCl (ct_ws G w) t.heap ∧ t.heap.size = G.2.2.2.2 + w.length) ∧ va_F (am_A G) st t
/-- of a constructor: its name, bytes, class, locals, cells, slots, trace, where it returns -/
abbrev ct_Kt : Type := MethodName × ByteArray × String × Nat × (Nat × Nat) × List am_I × Nat
def ct_rm (d : Nat) (κ : ct_Kt) : Room := { frames := d + 2, cells := κ.2.2.2.2.1.1, slots := κ.2.2.2.2.1.2, locals := 40 * d + 60 }
def ct_w (κ : ct_Kt) : List Cond := .code κ.1 κ.2.1 κ.2.2.2.1 none :: am_T
def ct_M (l : Launch) (G : am_G) (d : Nat) (κ : ct_Kt) (av : List Value) (w w' : ct_W) : Prop := Met l κ.1 (ct_w κ) (ct_rm d κ) (ct_Pc G av w) (ct_Qc G w') κ.2.2.2.2.1.1 κ.2.2.2.2.1.2 (am_A G)
/-- where a constructor's body stands -/
def ct_Cx (κ : ct_Kt) (G : am_G) (p : Program) (R : Room) (s : State) (m : MethodId) (args : Array Value) (meth : Method) (c : Code) : Prop := p.tables.exec = Jvm.exec ∧ c.code = κ.2.1 ∧ c.maxLocals = κ.2.2.2.1 ∧ s.vm.findClass κ.2.2.1 = some m.cls ∧ (∀ w ∈ am_T, w.before args s = true) ∧ ct_K G s ∧ meth.locks = false ∧ 2 ≤ R.frames ∧ 60 ≤ R.locals
/-- a callee in the tables -/
abbrev ct_cal (κ : ct_Kt) (n : Nat) : Prop := Cond.code κ.1 κ.2.1 κ.2.2.2.1 none ∈ am_T ∧ κ.1.cls ≠ "java/lang/invoke/MethodHandle" ∧ κ.1.cls ≠ "java/lang/invoke/VarHandle" ∧ (parseMethodDescriptor κ.1.desc).map (fun d => d.parameters.length) = some n ∧ κ.2.2.2.1 ≤ 10 ∧ κ.1.name = "<init>" ∧ Cond.instanceMethod κ.1 ∈ am_T ∧ Cond.initialized κ.1.cls ∈ am_T
abbrev ct_lnk (own : String) (idx : Nat) (y : MethodName) : Prop := Cond.methodLink own idx y ∈ am_T ∨ ∃ host, Cond.methodLinkNest own idx y host ∈ am_NW
section CTK
variable {p : Program} {l : Launch} {en : Env} {R : Room} {s : State} {m : MethodId} {args : Array Value} {below : List Frame} {meth : Method} {c : Code} {H : Heap} {locs : List Loc} {cells slots : Nat} {Q : State → Prop} {G : am_G} {pc d : Nat} {rls : Array Slot} {w w' : ct_W} {κ κ' : ct_Kt} {st : List Value}
theorem ct_call {mc ms : Nat} {st0 rest : List Value} {a : Array Value} (hr : va_Run p l en R s m args below meth c H locs cells slots mc ms (F0 m pc rls st0) rest (ct_Qc G w' a) (am_A G)) (hB : ct_B G w s H locs)
    (kk : ∀ (H1 : Heap) (locs1 : List Loc), ct_B G w' s H1 locs1 → W p l en R s m args below meth c H1 locs1 (cells + mc) (slots + ms) Q (F0 m (pc + 3) rls rest)) : W p l en R s m args below meth c H locs cells slots Q (F0 m pc rls st0) := by
  intro T hT X
  obtain ⟨v, st₀, t, T', L, h0, X', hL, e1, e2, ⟨⟨hv, hP, hz⟩, hF⟩, st⟩ := hr T hT X
  cases hv
  obtain ⟨-, -, k3⟩ := vx_keep h0 e1 hB.2.2.1 (fun _ _ h => h) (fun _ h => h) hL hF
  obtain ⟨t2, a1, b1⟩ := kk T'.heap (locs ++ L) ⟨by rw [e1]; exact hP, by rw [e1]; exact hz, k3, hB.2.2.2⟩ T' rfl X'
  exact ⟨t2, st t2 a1, b1⟩
theorem ct_init {o idx n : Nat} {Bs rest : List Value} (hC : ct_Cx κ G p R s m args meth c) (hcal : ct_cal κ' n) (hlk : ct_lnk κ.2.2.1 idx κ'.1) (hM : ct_M l G d κ' (.ref o :: Bs) w w') (hRf : d + 3 ≤ R.frames) (hRl : 40 * d + 100 ≤ R.locals) (hsz : rls.size = κ.2.2.2.1) (hB : ct_B G w s H locs) (hn : Bs.length = n) (h8 : am_cs rest ≤ 8) (hc : cells + κ'.2.2.2.2.1.1 ≤ R.cells) (hs : slots + κ'.2.2.2.2.1.2 ≤ R.slots) (hdg : decode κ.2.1 pc = .ok (.invokespecial idx, 3))
    (kk : ∀ (H1 : Heap) (locs1 : List Loc), ct_B G w' s H1 locs1 → W p l en R s m args below meth c H1 locs1 (cells + κ'.2.2.2.2.1.1) (slots + κ'.2.2.2.2.1.2) Q (F0 m (pc + 3) rls (rest.map (am_v G)))) : W p l en R s m args below meth c H locs cells slots Q (F0 m pc rls ((Bs.reverse ++ .ref o :: rest).map (am_v G))) := by
  obtain ⟨c1, c2, c3, c4, c5, c6, c7, c8, c9⟩ := hC
  obtain ⟨w2, w3, w4, w5, w6, w7, w8, w9⟩ := hcal
  have hroom : (ct_rm d κ').frames + 1 ≤ R.frames ∧ 8 + (κ'.2.2.2.1 + 11) + (ct_rm d κ').locals ≤ R.locals := by
    constructor
    · show d + 2 + 1 ≤ _
      omega
    · show 8 + (κ'.2.2.2.1 + 11) + (40 * d + 60) ≤ _
      omega
  have hin : ∀ w ∈ ct_w κ', w ∈ am_T := fun w hw => by
    rcases List.mem_cons.mp hw with e | e
    · rw [e]; exact w2
    · exact e
  have hpre : ∀ U : State, U.heap = H → s.WarmedH U.vm → ct_Pc G (.ref o :: Bs) w (.ref (G.1 o) :: Bs.map (am_v G)).toArray U := fun U hU hW => ⟨rfl, by rw [hU]; exact hB.1, by rw [hU]; exact hB.2.1, c6.warm hW⟩
  rcases hlk with hlk | ⟨host, hlk⟩
  · exact ct_call (va_runI (As := Bs.map (am_v G)) (Ts := am_T) (own := κ.2.2.1) (nL := κ.2.2.2.1) (cc := κ.2.1) ⟨c1, c2, c3, c4, c5⟩ hM (cwI n c5 (am_goodIn hin) rfl rfl rfl (c5 _ w9) (c5 _ hlk) (c5 _ w8) w7 ⟨w3, w4, w5⟩ hroom) ⟨ct_Pc.blind G _ w, hpre⟩ rfl (by rw [List.length_map]; exact hn) hsz (by simp [List.map_reverse, am_v]) (lv_room (by rw [am_cs_map]; exact h8)) hdg ⟨hc, hs⟩) hB kk
  · exact ct_call (va_runIN (As := Bs.map (am_v G)) (Ts := am_T) (own := κ.2.2.1) (nL := κ.2.2.2.1) (cc := κ.2.1) ⟨c1, c2, c3, c4, c5⟩ hM ⟨va_cnB n c5 (am_goodIn hin) rfl rfl rfl (c6.2.1 _ hlk) (c5 _ w9) ⟨w3, w4, w5⟩ hroom, w7, c5 _ w8⟩ ⟨ct_Pc.blind G _ w, hpre⟩ rfl (by rw [List.length_map]; exact hn) hsz (by simp [List.map_reverse, am_v]) (lv_room (by rw [am_cs_map]; exact h8)) hdg ⟨hc, hs⟩) hB kk
/-! ShutFistsModel.thingAt -/
def ct_Pt (x y : Int32) : Array Value → State → Prop := fun a _ => a = #[.int x, .int y]
theorem ct_thing (l : Launch) (x y : Int32) : Met l yX12_thingAt (am_wj yX12_thingAt cX12_thingAt 2 (some .int)) (am_rj 0 0) (ct_Pt x y) (am_Qn (some (7 + 4 * x + y))) 0 0 (fun _ => False) := by
  refine Met.ofW (cc := cX12_thingAt) (maxL := 2) (ret := (some .int)) (by decide) rfl ?_
  intro p e s m args below meth c s₁ B hml hv
  have hv : args = ([.int x, .int y] : List Value).toArray := hv
  subst hv
  have hx := B.exec
  have hb := B.bytes
  have hr := B.returns
  have hlocks := B.notSynchronized
  have hl := lv_entry ([.int x, .int y]) (n := 2) (Nat.le_of_ble_eq_true rfl)
  rw [lg_entry_eq]
  generalize (lg_sl ([.int x, .int y]) ++ List.replicate (2 - (lg_sl ([.int x, .int y])).length) Slot.unset).toArray = ls at hl ⊢
  have hl : lv_has ls 2 [(0, .int x), (1, .int y)] := hl
  refine lv_bipush (v := 7) hx hb dX12_thingAt_0 (by decide) ?_
  refine lv_iconst (v := 4) hx hb dX12_thingAt_2 (by decide) ?_
  refine lv_iload_n hx hb dX12_thingAt_3 rfl (lv_at hl 0 rfl) ?_
  refine lv_imul hx hb dX12_thingAt_4 ?_
  refine lv_iadd hx hb dX12_thingAt_5 ?_
  refine lv_iload_n hx hb dX12_thingAt_6 rfl (lv_at hl 1 rfl) ?_
  refine lv_iadd hx hb dX12_thingAt_7 ?_
  exact W.iret hx hb hr (fun t ht _ => ⟨rfl, ht⟩) (fun q h => by cases h) dX12_thingAt_8 hlocks
end CTK

/-! a trace is a run; a constructor keeps its contract -/
def ct_cs (kt : Nat → ct_Kt) : List am_I → Nat × Nat
  | [] => (0, 0)
  | (_, op, a, _, _) :: r => ((ct_co kt op a).1 + (ct_cs kt r).1, (ct_co kt op a).2 + (ct_cs kt r).2)
def ct_okT (kt : Nat → ct_Kt) (κ : ct_Kt) (e : Nat) : List am_I → Prop
  | [] => True
  | (pc, op, a, b, z) :: r => ct_ok kt κ pc op a b z (ct_np r e) ∧ ct_okT kt κ e r
def ct_nK : Nat := 13
def ct_cl (kt : Nat → ct_Kt) : Nat → ct_F
  | 0 => fun _ _ _ => none
  | d + 1 => fun k av w => if k < ct_nK ∧ av.all am_ir = true ∧ av.length ≤ (kt k).2.2.2.1 then (ct_tr (ct_cl kt d) (kt k).2.2.2.2.2.1 (av ++ List.replicate ((kt k).2.2.2.1 - av.length) .null) [] w).bind (fun q => match q.2.1 with | [] => some q.2.2 | _ => none) else none
section CTS
variable {p : Program} {l : Launch} {en : Env} {R : Room} {s s₁ : State} {m : MethodId} {args : Array Value} {below : List Frame} {meth : Method} {c : Code} {Q : State → Prop} {G : am_G} {d : Nat} {κ : ct_Kt} {kt : Nat → ct_Kt} {Φ : ct_F}
theorem ct_run (hcl : ∀ bb q, vwCl[bb]? = some q → am_cls bb q) (hIH : ∀ k av w w', Φ k av w = some w' → ct_M l G d (kt k) av w w') (hC : ct_Cx κ G p R s m args meth c) (hnm : meth.name = κ.1.name) (hRf : d + 3 ≤ R.frames) (hRl : 40 * d + 100 ≤ R.locals) {e : Nat} {ls1 st1 : List Value} {w1 : ct_W} :
    ∀ (T : List am_I) (ls st : List Value) (w : ct_W) (rls : Array Slot) (H : Heap) (locs : List Loc) (cells slots : Nat), ct_tr Φ T ls st w = some (ls1, st1, w1) → ct_okT kt κ e T → cells + (ct_cs kt T).1 ≤ R.cells → slots + (ct_cs kt T).2 ≤ R.slots → am_L G κ.2.2.2.1 rls ls → ct_B G w s H locs →
      (∀ (rls1 : Array Slot) (H1 : Heap) (locs1 : List Loc), am_L G κ.2.2.2.1 rls1 ls1 → ct_B G w1 s H1 locs1 → W p l en R s m args below meth c H1 locs1 (cells + (ct_cs kt T).1) (slots + (ct_cs kt T).2) Q (F0 m e rls1 (st1.map (am_v G)))) → W p l en R s m args below meth c H locs cells slots Q (F0 m (ct_np T e) rls (st.map (am_v G))) := by
  intro T
  induction T with
  | nil =>
    intro ls st w rls H locs cells slots e0 _ hc hs hl hB kk
    cases e0
    exact kk _ _ _ hl hB
  | cons i T ih =>
    intro ls st w rls H locs cells slots e0 hok hc hs hl hB kk
    obtain ⟨pc, op, a, b, z⟩ := i
    unfold ct_tr at e0
    split at e0
    · rename_i h8
      obtain ⟨⟨ls2, st2, w2⟩, e1, e2⟩ := Option.bind_eq_some_iff.mp e0
      have hc' : cells + ((ct_co kt op a).1 + (ct_cs kt T).1) ≤ R.cells := hc
      have hs' : slots + ((ct_co kt op a).2 + (ct_cs kt T).2) ≤ R.slots := hs
      refine ct_row hcl hIH hC hnm hRf hRl hl hB hok.1 e1 h8 (by omega) (by omega) (fun rls1 H1 locs1 hl1 hB1 => ?_)
      refine ih ls2 st2 w2 rls1 H1 locs1 _ _ e2 hok.2 (by omega) (by omega) hl1 hB1 (fun rls3 H3 locs3 hl3 hB3 => ?_)
      have := kk rls3 H3 locs3 hl3 hB3
      rw [Nat.add_assoc, Nat.add_assoc]
      exact this
    · cases e0
theorem ct_entry {n : Nat} {av : List Value} (hall : av.all am_ir = true) (hlen : av.length ≤ n) (m : MethodId) : ∃ rls : Array Slot, entryFrame m (av.map (am_v G)).toArray n = F0 m 0 rls [] ∧ am_L G n rls (av ++ List.replicate (n - av.length) .null) := by
  refine ⟨_, lg_entry_eq m (av.map (am_v G)) n, ?_, ?_⟩
  · have hl := lv_entry (av.map (am_v G)) (n := n) (by rw [am_sl_len av hall]; exact hlen)
    refine ⟨hl.1, hl.2.1, fun q hq => hl.2.2 q ?_⟩
    obtain ⟨v, h1, h2⟩ := (am_ll_mem G _ q).mp hq
    by_cases hi : q.1 < av.length
    · rw [List.getElem?_append_left hi] at h1
      have := am_args av 0 hall q.1 v q.2 h1 h2
      rw [Nat.zero_add] at this
      exact this
    · rw [List.getElem?_append_right (by omega)] at h1
      have := List.eq_of_mem_replicate (List.mem_of_getElem? h1)
      subst this
      cases h2
  · rw [List.length_append, List.length_replicate]
    omega
/-- what the tables say of a constructor -/
def ct_mt (kt : Nat → ct_Kt) (κ : ct_Kt) : Prop := plainName κ.1.cls = true ∧ κ.2.2.1 = κ.1.cls ∧ ct_okT kt κ κ.2.2.2.2.2.2 κ.2.2.2.2.2.1 ∧ decode κ.2.1 κ.2.2.2.2.2.2 = .ok (.return_, 1) ∧ (ct_cs kt κ.2.2.2.2.2.1).1 ≤ κ.2.2.2.2.1.1 ∧ (ct_cs kt κ.2.2.2.2.2.1).2 ≤ κ.2.2.2.2.1.2 ∧ ct_np κ.2.2.2.2.2.1 κ.2.2.2.2.2.2 = 0
theorem ct_sound (hcl : ∀ bb q, vwCl[bb]? = some q → am_cls bb q) (hmt : ∀ k, k < ct_nK → ct_mt kt (kt k)) : ∀ d k av w w', ct_cl kt d k av w = some w' → ct_M l G d (kt k) av w w' := by
  intro d
  induction d with
  | zero => intro k av w w' e; cases e
  | succ d ih =>
    intro k av w w' e
    unfold ct_cl at e
    split at e
    · rename_i hcnd
      obtain ⟨hk, hall, hlen⟩ := hcnd
      obtain ⟨⟨ls1, st1, w1⟩, e1, e2⟩ := Option.bind_eq_some_iff.mp e
      cases st1 with
      | cons _ _ => cases e2
      | nil =>
      cases e2
      obtain ⟨t1, t2, t3, t4, t5, t6, t7⟩ := hmt k hk
      generalize hκ : kt k = κ at *
      refine Met.ofW (cc := κ.2.1) (maxL := κ.2.2.2.1) (ret := none) t1 rfl ?_
      intro p e s m args below meth c s₁ B hml hv
      obtain ⟨rfl, hP, hz, hK⟩ := hv
      have hr := B.returns
      have hlocks := B.notSynchronized
      have hts : ∀ w ∈ am_T, w.before _ s = true := fun w hw => atoms_spec (ws := ct_w κ) B.pre w (List.mem_cons_of_mem _ hw)
      have hown : s.vm.findClass κ.2.2.1 = some m.cls := by rw [t2]; exact findClass_of_methodNamed B.named
      have hnm : meth.name = κ.1.name := (name_of_methodNamed B.named B.method).1
      have hC : ct_Cx κ G p (ct_rm (d + 1) κ) s m (av.map (am_v G)).toArray meth c := ⟨B.exec, B.bytes, hml, hown, hts, hK, hlocks, by show 2 ≤ d + 1 + 2; omega, by show 60 ≤ 40 * (d + 1) + 60; omega⟩
      have hB : ct_B G w s s.heap [] := ⟨hP, hz, va_S.rf, by omega⟩
      obtain ⟨rls, ef, hl⟩ := ct_entry (G := G) hall hlen m
      rw [ef]
      have hrun := ct_run (l := l) (en := e) (below := below) (Q := MQ below (ct_Qc G w1) (av.map (am_v G)).toArray s κ.2.2.2.2.1.1 κ.2.2.2.2.1.2 (am_A G)) hcl ih hC hnm (by show d + 3 ≤ d + 1 + 2; omega) (by show 40 * d + 100 ≤ 40 * (d + 1) + 60; omega) κ.2.2.2.2.2.1 _ _ w rls s.heap [] 0 0 e1 t3 (by show 0 + _ ≤ κ.2.2.2.2.1.1; omega) (by show 0 + _ ≤ κ.2.2.2.2.1.2; omega) hl hB (fun rls1 H1 locs1 hl1 hB1 => by
        refine W.widen (k := κ.2.2.2.2.1.1) (n := κ.2.2.2.2.1.2) (by omega) (by omega) ?_
        exact W.vret hC.1 hC.2.1 hr (fun t ht hW => ⟨⟨rfl, by rw [ht]; exact hB1.1, by rw [ht]; exact hB1.2.1⟩, hB1.2.2.1.F ht⟩) hB1.2.2.1.2.2 t4 hlocks)
      rw [t7] at hrun
      exact hrun
    · cases e
end CTS

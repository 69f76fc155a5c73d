/-! rows of the start, with the heap's size -/
theorem ct_B.push {G : am_G} {w : ct_W} {s : State} {H H1 : Heap} {locs : List Loc} {e : ct_E} (hB : ct_B G w s H locs) (z1 : H1.size = H.size + 1) (o1 : ∀ q : Nat, q < H.size → H1[q]? = H[q]?) (he : va_at G.2.2.1 vwCl (H.size, ct_e G e) H1) : ct_B G (w ++ [e]) s H1 locs := by
  obtain ⟨h1, h2, h3, h4⟩ := hB
  refine ⟨?_, by rw [z1, h2, List.length_append]; simp; omega, ⟨Nat.le_trans h3.1 (by omega), fun x a1 a2 => (o1 x (Nat.lt_of_lt_of_le a1 h3.1)).trans (h3.2.1 x a1 a2), h3.2.2⟩, h4⟩
  rw [ct_ws_app]
  refine (h1.kept (fun k x hx => o1 x.1 ((h1 k x hx).lt))).app (fun k x hx => ?_)
  have hz : k < 1 := (List.getElem?_eq_some_iff.mp hx).1
  rw [show k = 0 by omega] at hx
  cases hx
  rw [← h2]
  exact he
theorem ct_B.put {G : am_G} {w : ct_W} {s : State} {H H1 : Heap} {locs : List Loc} {e0 e : ct_E} {o k : Nat} (hB : ct_B G w s H locs) (hw : w[o]? = some e0) (z1 : H1.size = H.size) (o1 : ∀ q : Nat, q ≠ G.2.2.2.2 + o → H1[q]? = H[q]?) (he : va_at G.2.2.1 vwCl (G.2.2.2.2 + o, ct_e G e) H1) : ct_B G (w.set o e) s H1 (locs ++ [⟨G.2.2.2.2 + o, k⟩]) := by
  obtain ⟨h1, h2, h3, h4⟩ := hB
  refine ⟨?_, by rw [z1, h2, List.length_set], h3.put z1 o1 (Nat.le_add_right _ _), h4⟩
  rw [ct_ws_set G e (List.getElem?_eq_some_iff.mp hw).1]
  exact h1.set (ct_D G w) (ct_ws_at G hw) he o1
theorem ct_len_map {fs : List Value} {k : Nat} (G : am_G) (h : k < fs.length) : k < (fs.map (am_v G)).length := by rw [List.length_map]; exact h
section CTR
variable {p : Program} {l : Launch} {en : Env} {R : Room} {s : State} {m : MethodId} {args : Array Value} {below : List Frame} {meth : Method} {c : Code} {H : Heap} {locs : List Loc} {cells slots : Nat} {Q : State → Prop} {G : am_G} {pc : Nat} {rls : Array Slot} {w : ct_W} {cc : ByteArray} {own : String} {rest : List Value} {o : Nat}
theorem ct_put {b a index : Nat} {q : vw_C} {fs : List Value} {ty : FieldType} {v : Value} (hcl : am_cls b q) (hx : p.tables.exec = Jvm.exec) (hb : c.code = cc) (hts : ∀ w ∈ am_T, w.before args s = true) (hown : s.vm.findClass own = some m.cls) (hK : va_K G.2.2.1 vwCl (am_tys G) s) (hB : ct_B G w s H locs) (hw : w[o]? = some (.inr (b, fs))) (hq : vwCl[b]? = some q) (ha : a < q.2.2) (hl : a < fs.length)
    (hlink : Cond.fieldLink own index (q.2.1 a).1 (q.2.1 a).2.1 (q.2.1 a).2.2.1 ∈ am_T) (hfin : (q.2.1 a).2.2.2 = false ∨ ((q.2.1 a).2.2.2 = true ∧ meth.name = "<init>" ∧ (q.2.1 a).1 = own)) (hd : parseFieldDescriptor (q.2.1 a).2.2.1 = some ty) (hn : narrow ty (am_v G v) = am_v G v) (hfit : fits ty (am_v G v) = true) (hdg : decode cc pc = .ok (.putfield index, 3))
    (kk : ∀ (H1 : Heap) (locs1 : List Loc), ct_B G (w.set o (.inr (b, fs.set a v))) s H1 locs1 → W p l en R s m args below meth c H1 locs1 cells slots Q (F0 m (pc + 3) rls rest)) : W p l en R s m args below meth c H locs cells slots Q (F0 m pc rls (am_v G v :: .ref (G.2.2.2.2 + o) :: rest)) := by
  obtain ⟨hin, ⟨ty0, hty⟩, hnm, -⟩ := hcl
  obtain ⟨C, T, N⟩ := q
  have hap := va_apart (own := own) hts hin ty0 hty hnm hK hq
  obtain ⟨r, h1, cell, q1, q2, q3, q4⟩ := hB.1 o _ (ct_ws_at G hw)
  have hr : r = (C, T, N) := Option.some.inj (h1.symm.trans hq)
  subst hr
  obtain ⟨hS, hfc, kC, hkC, hkind⟩ := hK.1 b _ hq
  obtain ⟨cf, kf, fi, f, hi, hsl⟩ := hS a ha
  have hlay := hts _ (hin _ (u_in_lay ha))
  unfold u_lay at hlay
  have hst := (u_facts hfc hkC (u_lays hts hin ha) hi).1
  have fin : ∀ (H' : Heap) (e1 : H'[G.2.2.2.2 + o]? = some { cell with slots := cell.slots.setIfInBounds (G.2.2.1.2 b a) (am_v G v) }) (e2 : H'.size = H.size) (e3 : ∀ q : Nat, q ≠ G.2.2.2.2 + o → H'[q]? = H[q]?) (k9 : Nat), ct_B G (w.set o (.inr (b, fs.set a v))) s H' (locs ++ [⟨G.2.2.2.2 + o, k9⟩]) := fun H' e1 e2 e3 k9 => by
    refine hB.put hw e2 e3 ⟨_, hq, ?_⟩
    show t_OB _ _ _ _ _ (vp_V ((fs.set a v).map (am_v G)))
    rw [List.map_set]
    exact t_OB.to (V := updV (vp_V (fs.map (am_v G))) a (am_v G v)) ⟨_, e1, q2, q3, t_set q4 hap ha (am_v G v)⟩ (fun j _ => vp_updV_set (ct_len_map G hl) (am_v G v) j)
  rcases hfin with hfin | ⟨hfin, hin2, hdecl⟩
  · rw [if_neg (by rw [hfin]; decide)] at hlay
    have h6 := u_store hfc hkC hkind hlay hi hd hn hfit
    refine W.putK hx hb (f := f) ⟨hown, hts _ hlink, ⟨_, _, _, hi⟩, hst⟩ (by rw [q2]; exact h6) q1 q3 (by rw [hsl]; exact k2_hasslot (q4 a ha)) rfl rfl hdg fun H' e1 e2 e3 => ?_
    rw [hsl] at e1
    exact kk H' _ (fin H' e1 e2 e3 _)
  · rw [if_pos hfin] at hlay
    have hcf : m.cls = cf := by
      obtain ⟨_, _, c', _, _, _, -, -, hf', -, -, -, hown2, -⟩ := Cond.laysFinal_spec hlay
      have e1 : c' = cf := by have := hi.symm.trans hf'; simp at this; exact this.1.symm
      rw [show (T a).1 = own from hdecl] at hown2
      rw [← e1]; exact Option.some.inj (hown.symm.trans hown2)
    have h6 := u_fits hfc hkC hkind (Or.inr hlay) hi hd hn hfit
    refine W.putFinK hx hb hown (hts _ hlink) hi hst hcf hin2 (by rw [q2]; exact h6) q1 q3 (by rw [hsl]; exact k2_hasslot (q4 a ha)) rfl rfl hdg fun H' e1 e2 e3 => ?_
    rw [hsl] at e1
    exact kk H' _ (fin H' e1 e2 e3 _)
theorem ct_lk_cons (us : List (Nat × Value)) (j i : Nat) (v : Value) : ct_lk ((j, v) :: us) i = if i = j then v else ct_lk us i := rfl
theorem ct_lI_upd (us : List (Nat × Value)) (i : Nat) (x : Int32) : ct_lI ((i, .int x) :: us) = upd (ct_lI us) i x := by
  funext j
  show (match ct_lk ((i, .int x) :: us) j with | .int x => x | _ => 0) = if j = i then x else ct_lI us j
  rw [ct_lk_cons]
  by_cases h : j = i
  · rw [if_pos h, if_pos h]
  · rw [if_neg h, if_neg h]; rfl
theorem ct_iast {n : Nat} {us : List (Nat × Value)} {i x : Int32} (hx : p.tables.exec = Jvm.exec) (hb : c.code = cc) (hK : va_K G.2.2.1 vwCl (am_tys G) s) (hB : ct_B G w s H locs) (hw : w[o]? = some (.inl (20, n, us))) (hin : vp_in i n) (hdg : decode cc pc = .ok (.iastore, 1))
    (kk : ∀ (H1 : Heap) (locs1 : List Loc), ct_B G (w.set o (.inl (20, n, (i.toNatClampNeg, .int x) :: us))) s H1 locs1 → W p l en R s m args below meth c H1 locs1 cells slots Q (F0 m (pc + 1) rls rest)) : W p l en R s m args below meth c H locs cells slots Q (F0 m pc rls (.int x :: .int i :: .ref (G.2.2.2.2 + o) :: rest)) := by
  refine W.iast hx hb (hB.1 o _ (ct_ws_at G hw)) ((hK.2 0 _ rfl).1 n (fun j => .int (ct_lI us j))) (fun q => by cases q) (by show ¬ (i < 0 ∨ (arrV _ _ _).slots.size ≤ _); rw [arrV_size]; exact hin) rfl rfl hdg fun H1 e z oq => ?_
  refine kk H1 _ (hB.put hw z oq ?_)
  show H1[G.2.2.2.2 + o]? = some (vp_cell _ (n, .inl (ct_lI ((i.toNatClampNeg, .int x) :: us))))
  rw [e, ct_lI_upd]
  show some ((arrV (G.2.1 0) n (fun j => .int (ct_lI us j))).setSlot i.toNatClampNeg (.int x)) = some (arrV (G.2.1 0) n (fun j => .int (upd (ct_lI us) i.toNatClampNeg x j)))
  rw [arrV_store]
  congr 2
  funext q
  by_cases hq : q = i.toNatClampNeg
  · subst hq
    simp [updV, upd]
  · simp [updV, upd, hq]
theorem ct_lR_upd (G : am_G) (us : List (Nat × Value)) (i v : Nat) : ct_lR G ((i, .ref v) :: us) = va_up (ct_lR G us) i (some (G.1 v)) := by
  funext j
  show (match ct_lk ((i, .ref v) :: us) j with | .ref o => some (G.1 o) | _ => none) = if j = i then some (G.1 v) else ct_lR G us j
  rw [ct_lk_cons]
  by_cases h : j = i
  · rw [if_pos h, if_pos h]
  · rw [if_neg h, if_neg h]; rfl
theorem ct_aast {n v : Nat} {us : List (Nat × Value)} {fs : List Value} {i : Int32} (hx : p.tables.exec = Jvm.exec) (hb : c.code = cc) (hK : va_K G.2.2.1 vwCl (am_tys G) s) (hB : ct_B G w s H locs) (hw : w[o]? = some (.inl (25, n, us))) (hv : w[v]? = some (.inr (7, fs))) (hG : G.1 v = G.2.2.2.2 + v) (hin : vp_in i n) (hdg : decode cc pc = .ok (.aastore, 1))
    (kk : ∀ (H1 : Heap) (locs1 : List Loc), ct_B G (w.set o (.inl (25, n, (i.toNatClampNeg, .ref v) :: us))) s H1 locs1 → W p l en R s m args below meth c H1 locs1 cells slots Q (F0 m (pc + 1) rls rest)) : W p l en R s m args below meth c H locs cells slots Q (F0 m pc rls (.ref (G.2.2.2.2 + v) :: .int i :: .ref (G.2.2.2.2 + o) :: rest)) := by
  have hlt : i.toNatClampNeg < n := Nat.not_le.mp fun q => hin (Or.inr q)
  have h0 : ¬ i < 0 := fun q => hin (Or.inl q)
  obtain ⟨r', hr', cellV, g1, g2, g3, -⟩ := hB.1 v _ (ct_ws_at G hv)
  have hcls := (hK.1 7 _ rfl).2
  obtain ⟨kA, comp, k1, k2, k3, -⟩ := (hK.2 5 _ rfl).2
  have hcomp : comp = G.2.2.1.1 7 := Option.some.inj (k3.symm.trans hcls.1)
  subst hcomp
  obtain ⟨kC, hkC, -⟩ := hcls.2
  refine W.aast hx hb (hB.1 o _ (ct_ws_at G hw)) (fun q h => by cases h) (fun h => by cases h) k1 k2 rfl hkC ⟨h0, by show _ < (arrV _ _ _).slots.size; rw [arrV_size]; exact hlt⟩ g1 (fun q h => by rw [g3] at h; cases h) (by rw [g2]; exact hkC) (by rw [g2]; exact va_assign hcls) rfl rfl hdg fun H1 e z oq => ?_
  refine kk H1 _ (hB.put hw z oq ?_)
  show H1[G.2.2.2.2 + o]? = some (vp_cell _ (n, .inr (.inr (.inr (.inr (ct_lR G ((i.toNatClampNeg, .ref v) :: us)))))))
  rw [e, ct_lR_upd, hG]
  show some ((arrV (G.2.1 5) n (fun j => va_rf (ct_lR G us j))).setSlot i.toNatClampNeg (.ref (G.2.2.2.2 + v))) = some (arrV (G.2.1 5) n (fun j => va_rf (va_up (ct_lR G us) i.toNatClampNeg (some (G.2.2.2.2 + v)) j)))
  rw [arrV_store]
  congr 2
  funext q
  by_cases hq : q = i.toNatClampNeg
  · subst hq
    simp [updV, va_up, va_rf]
  · simp [updV, va_up, hq]
theorem ct_new {a index : Nat} {q : vw_C} (hcl : am_cls a q) (hx : p.tables.exec = Jvm.exec) (hb : c.code = cc) (hts : ∀ w ∈ am_T, w.before args s = true) (hown : s.vm.findClass own = some m.cls) (hK : va_K G.2.2.1 vwCl (am_tys G) s) (hB : ct_B G w s H locs) (hq : vwCl[a]? = some q) (hdf : ∀ j, j < q.2.2 → (parseFieldDescriptor (q.2.1 j).2.2.1).map defaultValue = some (vp_V (ct_df a) j)) (h1 : Cond.classLink own index q.1 ∈ am_T) (h2 : Cond.instantiable q.1 q.2.2 ∈ am_T) (h3 : Cond.initialized q.1 ∈ am_T) (hcells : cells + 1 ≤ R.cells) (hslots : slots + q.2.2 ≤ R.slots) (hdg : decode cc pc = .ok (.new index, 3))
    (kk : ∀ H1 : Heap, ct_B G (w ++ [.inr (a, ct_df a)]) s H1 locs → W p l en R s m args below meth c H1 locs (cells + 1) (slots + q.2.2) Q (F0 m (pc + 3) rls (.ref (G.2.2.2.2 + w.length) :: rest))) : W p l en R s m args below meth c H locs cells slots Q (F0 m pc rls rest) := by
  obtain ⟨hin, ⟨ty, hty⟩, -, -⟩ := hcl
  obtain ⟨C, T, N⟩ := q
  have hKn := hK.1 a _ hq
  refine W.newcK hx hb hown (hts _ h1) (hts _ h2) (hts _ h3) rfl hdg hcells hslots hKn.2.1 rfl fun H1 kC hkC e1 z1 o1 => ?_
  have h9 := kk H1 (hB.push z1 o1 ⟨_, hq, (u_born ty hts hin hKn hkC e1 hty).to (fun j hj => by
    have := hdf j hj
    rw [hty j hj] at this
    rw [Option.some.inj this]
    show vp_V (ct_df a) j = vp_V ((ct_df a).map (am_v G)) j
    unfold vp_V ct_df
    rw [List.map_map]
    congr 1
    exact List.map_congr_left (fun b _ => by cases b <;> rfl))⟩)
  rw [← hB.2.1] at h9
  exact h9
def ct_ty (k : Nat) : FieldType := match k with
  | 20 => .int
  | 21 => .byte
  | 22 => .boolean
  | _ => .long
theorem ct_newa {k : Nat} {atype : ArrayType} {n : Int32} (hk : k = 20 ∨ k = 21 ∨ k = 22 ∨ k = 23) (hty : newarray.typeOf atype = ct_ty k) (harr : Cond.arrayClass (newarray.typeOf atype) ∈ am_T) (hx : p.tables.exec = Jvm.exec) (hb : c.code = cc) (hts : ∀ w ∈ am_T, w.before args s = true) (hK : va_K G.2.2.1 vwCl (am_tys G) s) (hB : ct_B G w s H locs) (hn : ¬ n < 0) (hN : n.toNatClampNeg ≤ 5000) (hcells : cells + 1 ≤ R.cells) (hslots : slots + n.toNatClampNeg ≤ R.slots) (hdg : decode cc pc = .ok (.newarray atype, 2))
    (kk : ∀ H1 : Heap, ct_B G (w ++ [.inl (k, n.toNatClampNeg, [])]) s H1 locs → W p l en R s m args below meth c H1 locs (cells + 1) (slots + n.toNatClampNeg) Q (F0 m (pc + 2) rls (.ref (G.2.2.2.2 + w.length) :: rest))) : W p l en R s m args below meth c H locs cells slots Q (F0 m pc rls (.int n :: rest)) := by
  have hby : n.toNatClampNeg * componentBytes (newarray.typeOf atype) ≤ 536870912 := by
    have : componentBytes (newarray.typeOf atype) ≤ 8 := by cases atype <;> decide
    exact Nat.le_trans (Nat.mul_le_mul hN this) (Nat.le_of_ble_eq_true rfl)
  refine va_newaK hx hb (hts _ harr) rfl hdg rfl hn rfl hby hcells hslots rfl fun H1 cA e1 z1 o1 hAr hNm => ?_
  rw [hty] at e1 hNm
  have fin : ct_B G (w ++ [.inl (k, n.toNatClampNeg, [])]) s H1 locs := by
    refine hB.push z1 o1 ?_
    rcases hk with rfl | rfl | rfl | rfl
    · have hc : cA = G.2.1 0 := Option.some.inj (hNm.symm.trans (hK.2 0 _ rfl).2)
      rw [hc] at e1
      exact e1
    · have hc : cA = G.2.1 1 := Option.some.inj (hNm.symm.trans (hK.2 1 _ rfl).2)
      rw [hc] at e1
      exact e1
    · have hc : cA = G.2.1 2 := Option.some.inj (hNm.symm.trans (hK.2 2 _ rfl).2)
      rw [hc] at e1
      exact e1
    · have hc : cA = G.2.1 3 := Option.some.inj (hNm.symm.trans (hK.2 3 _ rfl).2)
      rw [hc] at e1
      exact e1
  have h9 := kk H1 fin
  rw [← hB.2.1] at h9
  exact h9
theorem ct_newq {index : Nat} {n : Int32} (hx : p.tables.exec = Jvm.exec) (hb : c.code = cc) (hts : ∀ w ∈ am_T, w.before args s = true) (hown : s.vm.findClass own = some m.cls) (hlk : Cond.classLink own index "ShutFists$State" ∈ am_T) (hover : va_AO "ShutFists$State" s) (hK : va_K G.2.2.1 vwCl (am_tys G) s) (hB : ct_B G w s H locs) (hn : ¬ n < 0) (hN : n.toNatClampNeg ≤ 12) (hcells : cells + 1 ≤ R.cells) (hslots : slots + n.toNatClampNeg ≤ R.slots) (hdg : decode cc pc = .ok (.anewarray index, 3))
    (kk : ∀ H1 : Heap, ct_B G (w ++ [.inl (25, n.toNatClampNeg, [])]) s H1 locs → W p l en R s m args below meth c H1 locs (cells + 1) (slots + n.toNatClampNeg) Q (F0 m (pc + 3) rls (.ref (G.2.2.2.2 + w.length) :: rest))) : W p l en R s m args below meth c H locs cells slots Q (F0 m pc rls (.int n :: rest)) := by
  refine W.anew hx hb hown (hts _ hlk) (va_AO.use hover) rfl hdg rfl hn (Nat.le_trans (Nat.mul_le_mul_right 4 hN) (Nat.le_of_ble_eq_true rfl)) hcells hslots fun cA kA comp f1 f2 f3 f4 => ?_
  generalize hH1 : H.push ({ cls := cA, slots := Array.replicate n.toNatClampNeg .null, vm := .none } : Cell) = H1
  have z1 : H1.size = H.size + 1 := by rw [← hH1, Array.size_push]
  have e1 : H1[H.size]? = some (arrV cA n.toNatClampNeg (fun _ => .null)) := by rw [← hH1, Array.getElem?_push_size, ← arrV_new]
  have o1 : ∀ q : Nat, q < H.size → H1[q]? = H[q]? := fun q hq => by rw [← hH1, Array.getElem?_push, if_neg (Nat.ne_of_lt hq)]
  obtain ⟨kA', comp', -, -, -, k4⟩ := (hK.2 5 _ rfl).2
  have hc : cA = G.2.1 5 := Option.some.inj (f1.symm.trans k4)
  rw [hc] at e1
  have h9 := kk H1 (hB.push z1 o1 e1)
  rw [← hB.2.1] at h9
  exact h9
theorem ct_refs_at (G : am_G) (L : Nat) : ∀ (us : List Nat) (j : Nat), ct_lR G (us.map (fun i => (i, Value.ref (L + 1 + i)))) j = if j ∈ us then some (G.1 (L + 1 + j)) else none := by
  intro us
  induction us with
  | nil => intro j; rfl
  | cons u us ih =>
    intro j
    rw [List.map_cons, ct_lR_upd]
    show (if j = u then some (G.1 (L + 1 + u)) else ct_lR G (us.map (fun i => (i, Value.ref (L + 1 + i)))) j) = _
    by_cases hj : j = u
    · subst hj
      rw [if_pos rfl, if_pos List.mem_cons_self]
    · rw [if_neg hj, ih j]
      by_cases hm : j ∈ us
      · rw [if_pos hm, if_pos (List.mem_cons_of_mem _ hm)]
      · rw [if_neg hm, if_neg (fun q => by rcases List.mem_cons.mp q with q | q; exact hj q; exact hm q)]
theorem ct_ws_app2 (G : am_G) (w v : ct_W) : ct_ws G (w ++ v) = ct_ws G w ++ (List.range v.length).map (fun i => (G.2.2.2.2 + w.length + i, ct_e G (v.getD i (.inr (0, []))))) := by
  apply List.ext_getElem?
  intro i
  rw [ct_ws_get]
  by_cases hi : i < w.length
  · rw [List.getElem?_append_left hi, List.getElem?_append_left (by rw [ct_ws_len]; exact hi), ct_ws_get]
  · rw [List.getElem?_append_right (by omega), List.getElem?_append_right (by rw [ct_ws_len]; omega), ct_ws_len, List.getElem?_map]
    by_cases h2 : i - w.length < v.length
    · rw [List.getElem?_range h2, List.getElem?_eq_getElem h2]
      show some (G.2.2.2.2 + i, ct_e G v[i - w.length]) = some (G.2.2.2.2 + w.length + (i - w.length), ct_e G (v.getD (i - w.length) (.inr (0, []))))
      rw [List.getD_eq_getElem?_getD, List.getElem?_eq_getElem h2, show G.2.2.2.2 + w.length + (i - w.length) = G.2.2.2.2 + i by omega]
      rfl
    · rw [List.getElem?_eq_none (by omega), List.getElem?_eq_none (by rw [List.length_range]; omega)]
      rfl
theorem ct_mna {index : Nat} {n k : Int32} (hx : p.tables.exec = Jvm.exec) (hb : c.code = cc) (hts : ∀ w ∈ am_T, w.before args s = true) (hown : s.vm.findClass own = some m.cls) (hlk : Cond.classLink own index "[[I" ∈ am_T) (harr : Cond.arrayClass .int ∈ am_T) (hover : va_AOA .int s) (hK : va_K G.2.2.1 vwCl (am_tys G) s) (hG : ∀ o, o < 390 → G.1 o = G.2.2.2.2 + o) (hB : ct_B G w s H locs) (hn : ¬ n < 0) (hk : ¬ k < 0) (hN : n.toNatClampNeg ≤ 9) (hM : k.toNatClampNeg ≤ 9) (hw : w.length + 10 < 390) (hcells : cells + (1 + n.toNatClampNeg) ≤ R.cells) (hslots : slots + (n.toNatClampNeg + n.toNatClampNeg * k.toNatClampNeg) ≤ R.slots) (hdg : decode cc pc = .ok (.multianewarray index 2, 4))
    (kk : ∀ H1 : Heap, ct_B G (w ++ ([.inl (24, n.toNatClampNeg, (List.range n.toNatClampNeg).map (fun i => (i, Value.ref (w.length + 1 + i))))] ++ List.replicate n.toNatClampNeg (.inl (20, k.toNatClampNeg, [])))) s H1 locs → W p l en R s m args below meth c H1 locs (cells + 1 + n.toNatClampNeg) (slots + n.toNatClampNeg + n.toNatClampNeg * k.toNatClampNeg) Q (F0 m (pc + 4) rls (.ref (G.2.2.2.2 + w.length) :: rest))) : W p l en R s m args below meth c H locs cells slots Q (F0 m pc rls (.int k :: .int n :: rest)) := by
  obtain ⟨h1, h2, h3, h4⟩ := hB
  intro T hT Xs
  have hb9 : n.toNatClampNeg * 4 ≤ 536870912 := Nat.le_trans (Nat.mul_le_mul_right 4 hN) (Nat.le_of_ble_eq_true rfl)
  have hb8 : k.toNatClampNeg * componentBytes .int ≤ 536870912 := Nat.le_trans (Nat.mul_le_mul_right _ hM) (Nat.le_of_ble_eq_true rfl)
  have hb7 : k.toNatClampNeg ≤ 536870912 := Nat.le_trans hM (Nat.le_of_ble_eq_true rfl)
  obtain ⟨vm₁, cA, comp, -, fA, fC, hO, -, X', step⟩ := Xs.multianewarray2F (ty := .int) hx hown (hts _ hlk) (va_AOA.use hover) (hts _ harr) (g := F0 m pc rls (.int k :: .int n :: rest)) rfl (by rw [hb]; exact hdg) rfl hn hk hb9 hb8 hb7 rfl rfl hcells hslots
  have ec : comp = G.2.1 0 := Option.some.inj (fC.symm.trans (hK.2 0 _ rfl).2)
  have eA : cA = G.2.1 4 := Option.some.inj (fA.symm.trans (hK.2 4 _ rfl).2)
  subst ec
  subst eA
  generalize hF : Jvm.Free.Multi.fill (T.setVm vm₁) (G.2.1 4) (G.2.1 0) n.toNatClampNeg k.toNatClampNeg (defaultValue .int) n.toNatClampNeg = F at X' step
  have hTh : (T.setVm vm₁).heap = H := hT
  obtain ⟨f1, f2, -, -⟩ := Jvm.Free.Multi.fill_facts (T.setVm vm₁) (G.2.1 4) (G.2.1 0) n.toNatClampNeg k.toNatClampNeg (defaultValue .int) n.toNatClampNeg
  rw [hF, hTh] at f1 f2
  have hold : ∀ x : Nat, x < H.size → F.heap[x]? = H[x]? := fun x hx => by
    have := Jvm.Free.Multi.fill_old (T.setVm vm₁) (G.2.1 4) (G.2.1 0) n.toNatClampNeg k.toNatClampNeg (defaultValue .int) (a := x) (by rw [hTh]; exact hx) n.toNatClampNeg
    rw [hF, hTh] at this
    exact this
  have hrow : ∀ j : Nat, j < n.toNatClampNeg → F.heap[H.size + 1 + j]? = some (arrV (G.2.1 0) k.toNatClampNeg (fun _ => .int 0)) := fun j hj => by
    have := Jvm.Free.Multi.fill_inner (T.setVm vm₁) (G.2.1 4) (G.2.1 0) n.toNatClampNeg k.toNatClampNeg (defaultValue .int) n.toNatClampNeg j hj
    rw [hF, hTh] at this
    rw [this]
    show some ({ cls := G.2.1 0, slots := Array.replicate k.toNatClampNeg (.int 0), vm := .none } : Cell) = _
    rw [arrV_new]
  rw [vr_outer] at f2
  have fin : ct_B G (w ++ ([.inl (24, n.toNatClampNeg, (List.range n.toNatClampNeg).map (fun i => (i, Value.ref (w.length + 1 + i))))] ++ List.replicate n.toNatClampNeg (.inl (20, k.toNatClampNeg, [])))) s F.heap locs := by
    refine ⟨?_, ?_, ⟨by rw [f1]; have := h3.1; omega, fun x a1 a2 => (hold x (Nat.lt_of_lt_of_le a1 h3.1)).trans (h3.2.1 x a1 a2), h3.2.2⟩, h4⟩
    · rw [ct_ws_app2]
      refine (h1.kept (fun k9 x hx => hold x.1 ((h1 k9 x hx).lt))).app (fun k9 x hx => ?_)
      rw [List.getElem?_map] at hx
      obtain ⟨i, hi, rfl⟩ := Option.map_eq_some_iff.mp hx
      have hi2 := List.getElem?_eq_some_iff.mp hi
      obtain ⟨hi3, hi4⟩ := hi2
      simp at hi4 hi3
      subst hi4
      rw [← h2]
      cases k9 with
      | zero =>
        show F.heap[H.size + 0]? = some (arrV (G.2.1 4) n.toNatClampNeg (fun j => va_rf (ct_lR G _ j)))
        rw [Nat.add_zero, f2]
        congr 2
        funext j
        rw [ct_refs_at]
        by_cases hj : j < n.toNatClampNeg
        · rw [if_pos hj, if_pos (List.mem_range.mpr hj), hG _ (by omega), h2]
          congr 2
          omega
        · rw [if_neg hj, if_neg (fun q => hj (List.mem_range.mp q))]
      | succ j =>
        have hj : j < n.toNatClampNeg := by omega
        have := hrow j hj
        rw [show H.size + 1 + j = H.size + (j + 1) by omega] at this
        have e9 : ([(Sum.inl (24, n.toNatClampNeg, (List.range n.toNatClampNeg).map (fun i => (i, Value.ref (w.length + 1 + i)))) : ct_E)] ++ List.replicate n.toNatClampNeg (Sum.inl (20, k.toNatClampNeg, []) : ct_E)).getD (j + 1) (Sum.inr (0, [])) = (Sum.inl (20, k.toNatClampNeg, []) : ct_E) := by
          rw [List.getD_eq_getElem?_getD, List.cons_append, List.nil_append, List.getElem?_cons_succ, List.getElem?_replicate, if_pos hj]
          rfl
        rw [e9]
        exact this
    · rw [f1, h2]
      simp
      omega
  obtain ⟨t, a1, b1⟩ := kk F.heap fin F rfl X'
  refine ⟨t, step t ?_, b1⟩
  have e : T.heap.size = H.size := by rw [hT]
  rw [e, h2]
  exact a1
end CTR

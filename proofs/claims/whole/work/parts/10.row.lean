/-! A STEP IS WHAT THE BYTES SAY: what is asked of each step's place in the code -/
/-- of a method: its bytes, its class, its blocks, what it answers -/
abbrev am_Kt : Type := ByteArray × String × List (List am_I) × Option FieldType
noncomputable def am_kt (k : Nat) : am_Kt := (am_cc k, am_ow k, am_bl k, am_rt k)
abbrev am_ok0 (κ : am_Kt) (pc np : Nat) (z : Int32) : Prop := (∃ n, decode κ.1 pc = .ok (.iconst n, 1) ∧ Int32.ofInt n = z ∧ np = pc + 1) ∨ (∃ n, decode κ.1 pc = .ok (.bipush n, 2) ∧ (Int8.ofInt n).toInt32 = z ∧ np = pc + 2) ∨ (∃ n, decode κ.1 pc = .ok (.sipush n, 3) ∧ (Int16.ofInt n).toInt32 = z ∧ np = pc + 3) ∨ (∃ i, decode κ.1 pc = .ok (.ldc i, 2) ∧ Cond.constant κ.2.1 i z ∈ am_T ∧ np = pc + 2) ∨ (∃ i, decode κ.1 pc = .ok (.ldc_w i, 3) ∧ Cond.constant κ.2.1 i z ∈ am_T ∧ np = pc + 3)
abbrev am_ok1 (κ : am_Kt) (pc np a : Nat) : Prop := (∃ n : Fin 4, decode κ.1 pc = .ok (.iload_n n, 1) ∧ (n : Nat) = a ∧ np = pc + 1) ∨ (decode κ.1 pc = .ok (.iload a, 2) ∧ np = pc + 2)
abbrev am_ok46 (κ : am_Kt) (pc np a : Nat) : Prop := (∃ n : Fin 4, decode κ.1 pc = .ok (.aload_n n, 1) ∧ (n : Nat) = a ∧ np = pc + 1) ∨ (decode κ.1 pc = .ok (.aload a, 2) ∧ np = pc + 2)
abbrev am_ok2 (κ : am_Kt) (pc np a : Nat) : Prop := (∃ n : Fin 4, decode κ.1 pc = .ok (.istore_n n, 1) ∧ (n : Nat) = a ∧ np = pc + 1) ∨ (decode κ.1 pc = .ok (.istore a, 2) ∧ np = pc + 2)
abbrev am_ok3 (κ : am_Kt) (pc np a : Nat) (z : Int32) : Prop := ∃ n, decode κ.1 pc = .ok (.iinc a n, 3) ∧ Int32.ofInt n = z ∧ np = pc + 3
abbrev am_okd (κ : am_Kt) (pc np : Nat) (i : Instr) : Prop := decode κ.1 pc = .ok (i, 1) ∧ np = pc + 1
/-- the class bb of the kinds b has the field a, and the entry idx of own names it -/
abbrev am_lk (own : String) (idx a b : Nat) (P : Nat → vw_C → Prop) : Prop := (b < 11 ∨ b = 35) ∧ ∀ (bb : Nat) (q : vw_C), am_kk bb b = true → vwCl[bb]? = some q → a < q.2.2 ∧ ((Cond.fieldLink own idx (q.2.1 a).1 (q.2.1 a).2.1 (q.2.1 a).2.2.1 ∈ am_T) ∨ ∃ host, Cond.fieldLinkNest own idx (q.2.1 a).1 (q.2.1 a).2.1 (q.2.1 a).2.2.1 host ∈ am_NW) ∧ P bb q
abbrev am_gI (a : Nat) (bb : Nat) (_ : vw_C) : Prop := (am_fk bb).getD a false = false
abbrev am_gA (a : Nat) (bb : Nat) (_ : vw_C) : Prop := (am_fk bb).getD a false = true
abbrev am_pI (ty : FieldType) (a : Nat) (bb : Nat) (q : vw_C) : Prop := (am_fk bb).getD a false = false ∧ (q.2.1 a).2.2.2 = false ∧ parseFieldDescriptor (q.2.1 a).2.2.1 = some ty
abbrev am_okg (κ : am_Kt) (pc np a b : Nat) (P : Nat → vw_C → Prop) : Prop := ∃ idx, decode κ.1 pc = .ok (.getfield idx, 3) ∧ np = pc + 3 ∧ am_lk κ.2.1 idx a b P
abbrev am_okp (κ : am_Kt) (pc np a b : Nat) (ty : FieldType) : Prop := ∃ idx, decode κ.1 pc = .ok (.putfield idx, 3) ∧ np = pc + 3 ∧ am_lk κ.2.1 idx a b (am_pI ty a)
abbrev am_oks (κ : am_Kt) (pc np : Nat) (y : MethodName) : Prop := ∃ idx, decode κ.1 pc = .ok (.invokestatic idx, 3) ∧ np = pc + 3 ∧ Cond.methodLink κ.2.1 idx y ∈ am_T
abbrev am_okv (κ : am_Kt) (pc np : Nat) (y : MethodName) : Prop := ∃ idx, decode κ.1 pc = .ok (.invokevirtual idx, 3) ∧ np = pc + 3 ∧ Cond.methodLink κ.2.1 idx y ∈ am_T
abbrev am_ok38 (κ : am_Kt) (pc np a : Nat) : Prop := ∃ idx, decode κ.1 pc = .ok (.ldc idx, 2) ∧ np = pc + 2 ∧ a < am_sN ∧ am_sow a = κ.2.1 ∧ am_six a = idx
def am_ySl : MethodName := ⟨"java/lang/String", "length", "()I"⟩
def am_ySc : MethodName := ⟨"java/lang/String", "charAt", "(I)C"⟩
/-- what a step that goes straight on asks of its place -/
def am_ok (κ : am_Kt) (pc op a b : Nat) (z : Int32) (np : Nat) : Prop := match op with
  | 0 => am_ok0 κ pc np z
  | 1 => am_ok1 κ pc np a
  | 2 => am_ok2 κ pc np a
  | 3 => am_ok3 κ pc np a z
  | 4 => am_okd κ pc np .iadd
  | 5 => am_okd κ pc np .isub
  | 6 => am_okd κ pc np .imul
  | 7 => am_okd κ pc np .iand
  | 8 => am_okd κ pc np .ior
  | 9 => am_okd κ pc np .ixor
  | 10 => am_okd κ pc np .ishl
  | 11 => am_okd κ pc np .ishr
  | 12 => am_okd κ pc np .iushr
  | 13 => am_okd κ pc np .idiv
  | 14 => am_okd κ pc np .irem
  | 15 => am_okd κ pc np .ineg
  | 16 => am_okd κ pc np .i2b
  | 17 => am_okd κ pc np .i2l
  | 18 => am_okg κ pc np a b (am_gI a)
  | 19 => am_okg κ pc np a b (am_gA a)
  | 20 => am_okp κ pc np a b .int
  | 21 => am_okp κ pc np a b .boolean
  | 22 => am_okd κ pc np .iaload
  | 23 => am_okd κ pc np .baload
  | 24 => am_okd κ pc np .baload
  | 25 => am_okd κ pc np .aaload
  | 26 => am_okd κ pc np .laload
  | 27 => am_okd κ pc np .iastore
  | 28 => am_okd κ pc np .bastore
  | 29 => am_okd κ pc np .bastore
  | 30 => am_okd κ pc np .lastore
  | 31 => am_okd κ pc np .arraylength
  | 32 => am_okd κ pc np .dup
  | 33 => am_okd κ pc np .dup2
  | 34 => am_okd κ pc np .pop
  | 35 => am_okd κ pc np .lcmp
  | 36 => ∃ n : Fin 2, am_okd κ pc np (.lconst n) ∧ (n : Nat) = a
  | 37 => am_oks κ pc np arraycopyName
  | 38 => am_ok38 κ pc np a
  | 39 => am_okv κ pc np am_ySl
  | 40 => am_okv κ pc np am_ySc
  | 41 => am_oks κ pc np Lib.Math.min.name
  | 42 => am_oks κ pc np Lib.Math.max.name
  | 43 => am_oks κ pc np Lib.Math.abs.name
  | 44 => am_okd κ pc np .iaload
  | 45 => am_okd κ pc np .arraylength
  | 46 => am_ok46 κ pc np a
  | 47 => am_okd κ pc np .aaload
  | _ => False
/-- what the classes' tables say, for all kinds of objects -/
def am_cls (bb : Nat) (q : vw_C) : Prop := (∀ w ∈ u_ws q.1 q.2.1 q.2.2, w ∈ am_T) ∧ (∃ ty : Nat → FieldType, ∀ k, k < q.2.2 → parseFieldDescriptor (q.2.1 k).2.2.1 = some (ty k)) ∧ (∀ a, a < q.2.2 → ∀ b, b < q.2.2 → a ≠ b → (q.2.1 a).2.1 ≠ (q.2.1 b).2.1) ∧ (am_fk bb).length = q.2.2
theorem am_in_vp {i : Int32} {n : Nat} (h : am_in i n = true) : vp_in i n := by
  unfold am_in at h
  unfold vp_in
  simp at h
  intro q
  rcases q with q | q
  · exact absurd q (Int32.not_lt.mpr h.1)
  · omega
section AMR
variable {p : Program} {l : Launch} {e : Env} {R : Room} {s : State} {m : MethodId} {args : Array Value} {below : List Frame} {meth : Method} {c : Code} {H : Heap} {locs : List Loc} {cells slots : Nat} {Q : State → Prop} {G : am_G} {k pc np : Nat} {rls : Array Slot} {h : am_H} {st : List Value}
theorem am_B.put {h' : am_H} {o : Nat} {w : va_E} {H1 : Heap} {locs1 : List Loc} (hB : am_B G h s H locs) (ho : o < am_N) (hf : am_fr h h') (hw : w = am_ce G h' o) (he : ∀ o', o' ≠ o → h'.2 o' = h.2 o') (hP : va_P G.2.2.1 vwCl ((am_ws G h).set o (G.1 o, w)) H1) (hD : va_D (am_A G) ((am_ws G h).set o (G.1 o, w))) (hS : va_S (am_A G) s.heap H1 locs1) : am_B G h' s H1 locs1 := by
  obtain ⟨a1, a2⟩ := am_ws_up G ho hw he hP hD
  exact ⟨a1, a2, hS, hB.2.2.2.fr hf⟩
theorem am_w18 (hcl : ∀ bb q, vwCl[bb]? = some q → am_cls bb q) (hC : am_Cx k G p l R s m args meth c) (hB : am_B G h s H locs) {a b o : Nat} {P : Nat → vw_C → Prop} (hok : am_okg (am_kt k) pc np a b P) (hk : am_kk (am_kd o) b = true)
    (kk : W p l e R s m args below meth c H locs cells slots Q (F0 m np rls (am_fv G h o a :: st))) : W p l e R s m args below meth c H locs cells slots Q (F0 m pc rls (.ref (G.1 o) :: st)) := by
  obtain ⟨idx, hd, rfl, hb, hlk⟩ := hok
  have hlt := am_kk_lt hk hb
  obtain ⟨q, hq⟩ : ∃ q, vwCl[am_kd o]? = some q := ⟨_, List.getElem?_eq_getElem (show am_kd o < vwCl.length from hlt)⟩
  obtain ⟨ha, hl, -⟩ := hlk _ q hk hq
  obtain ⟨c1, -, -, c4⟩ := hcl _ q hq
  have ho : o < am_N := am_kd_lt (am_kk_ne hk hb)
  have he : (am_ws G h)[o]? = some (G.1 o, .inr (am_kd o, am_fs G h o)) := by rw [am_ws_at G h ho, am_ce_ob G h rfl hlt]
  have hv : (am_fs G h o)[a]? = some (am_fv G h o a) := am_fs_at G h (by unfold am_fn; rw [c4]; exact ha)
  rcases hl with hl | ⟨host, hl⟩
  · exact va_get (D := G.2.2.1) (ci := am_kd o) (v := am_fv G h o a) (C := q.1) (T := q.2.1) (N := q.2.2) hC.1 hC.2.1 hC.2.2.2.2.1 c1 hC.2.2.2.1 hC.2.2.2.2.2.1.1 hB.1 o he hq a ha (hC.2.2.2.2.1 _ hl) (fun _ h9 => h9) hv hd kk
  · exact va_getN (D := G.2.2.1) (ci := am_kd o) (v := am_fv G h o a) (C := q.1) (T := q.2.1) (N := q.2.2) hC.1 hC.2.1 hC.2.2.2.2.1 c1 hC.2.2.2.1 hC.2.2.2.2.2.1.1 hB.1 o he hq a ha (am_Nw_use rfl (hC.2.2.2.2.2.1.2.1 _ hl)) (fun _ h9 => h9) hv hd kk
theorem am_fs_set {G : am_G} {h : am_H} {o a : Nat} {v : Int32} (ha : (am_fk (am_kd o)).getD a false = false) : (am_fs G h o).set a (.int v) = am_fs G (am_up h o a v) o := by
  apply List.ext_getElem?
  intro i
  by_cases hi : i = a
  · subst hi
    by_cases hn : i < am_fn o
    · rw [List.getElem?_set_self (by rw [am_fs_len]; exact hn), am_fs_at G _ hn]
      unfold am_fv
      rw [ha, am_up_self]
      rfl
    · rw [List.getElem?_eq_none (by rw [List.length_set, am_fs_len]; omega), List.getElem?_eq_none (by rw [am_fs_len]; omega)]
  · rw [List.getElem?_set_ne (fun z => hi z.symm)]
    by_cases hn : i < am_fn o
    · rw [am_fs_at G _ hn, am_fs_at G _ hn]
      unfold am_fv
      rw [am_up_ni h o v hi]
    · rw [List.getElem?_eq_none (by rw [am_fs_len]; omega), List.getElem?_eq_none (by rw [am_fs_len]; omega)]
theorem am_w20 (hcl : ∀ bb q, vwCl[bb]? = some q → am_cls bb q) (hC : am_Cx k G p l R s m args meth c) (hB : am_B G h s H locs) {a b o : Nat} {ty : FieldType} {v : Int32} (hn : narrow ty (.int v) = .int v) (hfit : fits ty (.int v) = true) (hok : am_okp (am_kt k) pc np a b ty) (hk : am_kk (am_kd o) b = true)
    (kk : ∀ H1 locs1, am_B G (am_up h o a v) s H1 locs1 → W p l e R s m args below meth c H1 locs1 cells slots Q (F0 m np rls st)) : W p l e R s m args below meth c H locs cells slots Q (F0 m pc rls (.int v :: .ref (G.1 o) :: st)) := by
  obtain ⟨idx, hd, rfl, hb, hlk⟩ := hok
  have hlt := am_kk_lt hk hb
  obtain ⟨q, hq⟩ : ∃ q, vwCl[am_kd o]? = some q := ⟨_, List.getElem?_eq_getElem (show am_kd o < vwCl.length from hlt)⟩
  obtain ⟨ha, hl, hf0, hf1, hf2⟩ := hlk _ q hk hq
  obtain ⟨c1, ⟨ty0, c2⟩, c3, c4⟩ := hcl _ q hq
  have ho : o < am_N := am_kd_lt (am_kk_ne hk hb)
  have he : (am_ws G h)[o]? = some (G.1 o, .inr (am_kd o, am_fs G h o)) := by rw [am_ws_at G h ho, am_ce_ob G h rfl hlt]
  have hl2 : a < (am_fs G h o).length := by rw [am_fs_len]; unfold am_fn; rw [c4]; exact ha
  have fin : ∀ (H1 : Heap) (locs1 : List Loc), va_P G.2.2.1 vwCl ((am_ws G h).set o (G.1 o, .inr (am_kd o, (am_fs G h o).set a (.int v)))) H1 → va_D (am_A G) ((am_ws G h).set o (G.1 o, .inr (am_kd o, (am_fs G h o).set a (.int v)))) → va_S (am_A G) s.heap H1 locs1 → W p l e R s m args below meth c H1 locs1 cells slots Q (F0 m (pc + 3) rls st) := fun H1 locs1 hP hD hS =>
    kk H1 locs1 (hB.put ho (am_fr_up (am_kk_ne hk hb)) (by rw [am_ce_ob G _ rfl hlt, am_fs_set hf0]) (fun o' h' => am_up_ne h a v h') hP hD hS)
  rcases hl with hl | ⟨host, hl⟩
  · exact va_put (D := G.2.2.1) (ci := am_kd o) (v := .int v) (ty := ty) (C := q.1) (T := q.2.1) (N := q.2.2) hC.1 hC.2.1 hC.2.2.2.2.1 c1 ty0 c2 c3 hC.2.2.2.1 hC.2.2.2.2.2.1.1 hB.1 hB.2.1 hB.2.2.1 o he hq a ha (hC.2.2.2.2.1 _ hl) (fun _ h9 => h9) hf1 hf2 hn hfit hl2 hd fin
  · exact va_putN (D := G.2.2.1) (ci := am_kd o) (v := .int v) (ty := ty) (C := q.1) (T := q.2.1) (N := q.2.2) hC.1 hC.2.1 hC.2.2.2.2.1 c1 ty0 c2 c3 hC.2.2.2.1 hC.2.2.2.2.2.1.1 hB.1 hB.2.1 hB.2.2.1 o he hq a ha (am_Nw_use rfl (hC.2.2.2.2.2.1.2.1 _ hl)) (fun _ h9 => h9) hf1 hf2 hn hfit hl2 hd fin
theorem am_bit {v : Int32} (h : v = 0 ∨ v = 1) : narrow .boolean (.int v) = .int v ∧ fits .boolean (.int v) = true ∧ vp_nar .boolean v = v := by
  rcases h with rfl | rfl <;> exact ⟨by decide +kernel, by decide +kernel, by decide +kernel⟩
end AMR

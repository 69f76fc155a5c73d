def am_fkL : List (List Bool) := [[true, true, false], [true, true, false], [true, true, true, true, true, true, false, false], [true, true, false, false, true], [true, true, true, true], [true, true, false, false, true], [true, false, false], [true, true, true, false, false, false, false, false], [true, false, false], [true, true, true, true, true, true, true, true, true, true, true, true, true, false, false], [false, true, true, true, true, true, false, false, true, false, false, false, false, false, false, true, false, true, true, true, true, false, true, true, true, true]]
def am_fk (k : Nat) : List Bool := am_fkL.getD k []
/-! THE PICTURE OF A HEAP: cell o of the world lies at G.1 o. G: addresses, array classes, the classes and slots, where the texts' bytes lie, from where on cells are ours. -/
abbrev am_G : Type := (Nat → Nat) × (Nat → ClassId) × va_G × (Nat → Nat) × Nat
def am_A (G : am_G) : Nat → Prop := fun q => G.2.2.2.2 ≤ q
def am_fn (o : Nat) : Nat := (am_fk (am_kd o)).length
def am_fv (G : am_G) (h : am_H) (o k : Nat) : Value := if (am_fk (am_kd o)).getD k false = true then .ref (G.1 (am_tg o k)) else .int (h.2 o k)
def am_fs (G : am_G) (h : am_H) (o : Nat) : List Value := (List.range (am_fn o)).map (am_fv G h o)
def am_ce (G : am_G) (h : am_H) (o : Nat) : va_E := match am_kd o with
  | 20 => .inl (G.2.1 0, am_ln o, .inl (h.2 o))
  | 21 => .inl (G.2.1 1, am_ln o, .inl (h.2 o))
  | 22 => .inl (G.2.1 2, am_ln o, .inl (h.2 o))
  | 23 => .inl (G.2.1 3, am_ln o, .inr (.inl (fun i => (h.2 o i).toInt64)))
  | 24 => .inl (G.2.1 4, am_ln o, .inr (.inr (.inr (.inr (fun i => some (G.1 (o + 1 + i)))))))
  | 25 => .inl (G.2.1 5, am_ln o, .inr (.inr (.inr (.inr (fun i => some (G.1 (o + 1 + 22 * i)))))))
  | k => .inr (k, am_fs G h o)
def am_ws (G : am_G) (h : am_H) : va_W := (List.range am_N).map (fun o => (G.1 o, am_ce G h o))
abbrev am_tys (G : am_G) : List (ClassId × FieldType) := [(G.2.1 0, .int), (G.2.1 1, .byte), (G.2.1 2, .boolean), (G.2.1 3, .long), (G.2.1 4, .array .int), (G.2.1 5, .object "ShutFists$State")]
theorem am_ws_at (G : am_G) (h : am_H) {o : Nat} (ho : o < am_N) : (am_ws G h)[o]? = some (G.1 o, am_ce G h o) := by
  unfold am_ws
  rw [List.getElem?_map, List.getElem?_range ho]
  rfl
theorem am_kdL_len : am_kdL.length = 390 := by decide +kernel
theorem am_kd_lt {o : Nat} (h : am_kd o ≠ 99) : o < am_N := by
  rcases Nat.lt_or_ge o am_N with q | q
  · exact q
  · exact absurd (by unfold am_kd; rw [List.getD_eq_getElem?_getD, List.getElem?_eq_none (by rw [am_kdL_len]; exact q)]; rfl) h
theorem am_fs_at (G : am_G) (h : am_H) {o k : Nat} (hk : k < am_fn o) : (am_fs G h o)[k]? = some (am_fv G h o k) := by
  unfold am_fs
  rw [List.getElem?_map, List.getElem?_range hk]
  rfl
theorem am_fs_len (G : am_G) (h : am_H) (o : Nat) : (am_fs G h o).length = am_fn o := by simp [am_fs]
theorem am_up_self (h : am_H) (o i : Nat) (v : Int32) : (am_up h o i v).2 o i = v := by simp [am_up]
theorem am_up_ne (h : am_H) {o o' : Nat} (i : Nat) (v : Int32) (hne : o' ≠ o) : (am_up h o i v).2 o' = h.2 o' := by
  funext j
  simp [am_up, hne]
theorem am_up_ni (h : am_H) (o : Nat) {i i' : Nat} (v : Int32) (hne : i' ≠ i) : (am_up h o i v).2 o i' = h.2 o i' := by simp [am_up, hne]
theorem am_up_row (h : am_H) (o i : Nat) (v : Int32) : (am_up h o i v).2 o = upd (h.2 o) i v := by
  funext j
  simp [am_up, upd]
theorem am_cp_ne (h : am_H) {s d o' : Nat} (sp dp n : Nat) (hne : o' ≠ d) : (am_cp h s sp d dp n).2 o' = h.2 o' := by
  funext j
  simp [am_cp, hne]
theorem am_cp_row (h : am_H) (s sp d dp n : Nat) : (am_cp h s sp d dp n).2 d = va_cpy (h.2 s) (h.2 d) sp dp n := by
  funext j
  simp [am_cp, va_cpy]
theorem am_fv_eq (G : am_G) {h h' : am_H} {o : Nat} (e : h'.2 o = h.2 o) (k : Nat) : am_fv G h' o k = am_fv G h o k := by
  unfold am_fv
  rw [e]
theorem am_ce_eq (G : am_G) {h h' : am_H} {o : Nat} (e : h'.2 o = h.2 o) : am_ce G h' o = am_ce G h o := by
  have hf : am_fs G h' o = am_fs G h o := by
    unfold am_fs
    exact List.map_congr_left fun k _ => am_fv_eq G e k
  unfold am_ce
  rw [e, hf]
theorem am_ws_set (G : am_G) {h h' : am_H} {o : Nat} {w : va_E} (ho : o < am_N) (hw : w = am_ce G h' o) (he : ∀ o', o' ≠ o → h'.2 o' = h.2 o') : (am_ws G h).set o (G.1 o, w) = am_ws G h' := by
  apply List.ext_getElem?
  intro i
  by_cases hi : i = o
  · subst hi
    rw [List.getElem?_set_self (by simp [am_ws]; exact ho), am_ws_at G h' ho, hw]
  · rw [List.getElem?_set_ne (fun q => hi q.symm)]
    by_cases hN : i < am_N
    · rw [am_ws_at G h hN, am_ws_at G h' hN, am_ce_eq G (he i hi)]
    · rw [List.getElem?_eq_none (by simp [am_ws]; omega), List.getElem?_eq_none (by simp [am_ws]; omega)]
theorem am_ws_up {D : va_G} {cl : List vw_C} {A : Nat → Prop} (G : am_G) {h h' : am_H} {o : Nat} {w : va_E} {H : Heap} (ho : o < am_N) (hw : w = am_ce G h' o) (he : ∀ o', o' ≠ o → h'.2 o' = h.2 o') (hP : va_P D cl ((am_ws G h).set o (G.1 o, w)) H) (hD : va_D A ((am_ws G h).set o (G.1 o, w))) : va_P D cl (am_ws G h') H ∧ va_D A (am_ws G h') := by
  rw [am_ws_set G ho hw he] at hP hD
  exact ⟨hP, hD⟩
theorem am_ce_20 (G : am_G) (h : am_H) {o : Nat} (k : am_kd o = 20) : am_ce G h o = .inl (G.2.1 0, am_ln o, .inl (h.2 o)) := by unfold am_ce; rw [k]; rfl
theorem am_ce_21 (G : am_G) (h : am_H) {o : Nat} (k : am_kd o = 21) : am_ce G h o = .inl (G.2.1 1, am_ln o, .inl (h.2 o)) := by unfold am_ce; rw [k]; rfl
theorem am_ce_22 (G : am_G) (h : am_H) {o : Nat} (k : am_kd o = 22) : am_ce G h o = .inl (G.2.1 2, am_ln o, .inl (h.2 o)) := by unfold am_ce; rw [k]; rfl
theorem am_ce_23 (G : am_G) (h : am_H) {o : Nat} (k : am_kd o = 23) : am_ce G h o = .inl (G.2.1 3, am_ln o, .inr (.inl (fun i => (h.2 o i).toInt64))) := by unfold am_ce; rw [k]; rfl
theorem am_ce_24 (G : am_G) (h : am_H) {o : Nat} (k : am_kd o = 24) : am_ce G h o = .inl (G.2.1 4, am_ln o, .inr (.inr (.inr (.inr (fun i => some (G.1 (o + 1 + i))))))) := by unfold am_ce; rw [k]; rfl
theorem am_ce_25 (G : am_G) (h : am_H) {o : Nat} (k : am_kd o = 25) : am_ce G h o = .inl (G.2.1 5, am_ln o, .inr (.inr (.inr (.inr (fun i => some (G.1 (o + 1 + 22 * i))))))) := by unfold am_ce; rw [k]; rfl
theorem am_ce_ob (G : am_G) (h : am_H) {o b : Nat} (k : am_kd o = b) (hb : b < 11) : am_ce G h o = .inr (b, am_fs G h o) := by
  unfold am_ce
  rw [k]
  split
  all_goals first | omega | rfl
/-- values of the abstract machine, as the machine has them -/
def am_v (G : am_G) (v : Value) : Value := match v with
  | .ref o => .ref (G.1 o)
  | w => w
theorem am_v_cat (G : am_G) (v : Value) : (am_v G v).category = v.category := by cases v <;> rfl
theorem am_cs_map (G : am_G) (st : List Value) : ((st.map (am_v G)).map fun v => v.category).sum = am_cs st := by
  unfold am_cs
  rw [List.map_map]
  congr 1
  exact List.map_congr_left fun v _ => am_v_cat G v
/-! the locals -/
def am_vo (G : am_G) (v : Value) : Option Value := match v with
  | .int x => some (.int x)
  | .ref o => some (.ref (G.1 o))
  | _ => none
def am_ll (G : am_G) (ls : List Value) : List (Nat × Value) := (List.range ls.length).filterMap (fun i => (ls[i]?).bind (fun v => (am_vo G v).map (fun w => (i, w))))
theorem am_ll_mem (G : am_G) (ls : List Value) (q : Nat × Value) : q ∈ am_ll G ls ↔ ∃ v, ls[q.1]? = some v ∧ am_vo G v = some q.2 := by
  unfold am_ll
  rw [List.mem_filterMap]
  constructor
  · rintro ⟨i, -, h⟩
    obtain ⟨v, h1, h2⟩ := Option.bind_eq_some_iff.mp h
    obtain ⟨w, h3, h4⟩ := Option.map_eq_some_iff.mp h2
    subst h4
    exact ⟨v, h1, h3⟩
  · rintro ⟨v, h1, h2⟩
    have hl : q.1 < ls.length := (List.getElem?_eq_some_iff.mp h1).1
    exact ⟨q.1, List.mem_range.mpr hl, by rw [h1]; show (am_vo G v).map _ = _; rw [h2]; rfl⟩
theorem am_vo_cat {G : am_G} {v w : Value} (h : am_vo G v = some w) : w.category = 1 := by
  cases v <;> simp [am_vo] at h <;> subst h <;> rfl
theorem am_li_at {ls : List Value} {a : Nat} {x : Int32} (h : am_li ls a = some x) : ls[a]? = some (.int x) := by
  induction ls generalizing a with
  | nil => simp [am_li] at h
  | cons v l ih =>
    cases a with
    | zero =>
      unfold am_li at h
      split at h
      · simp only [List.getElem?_cons_zero]; rw [Option.some.inj h]
      · exact (Option.some_ne_none _ h.symm).elim
    | succ a => simpa using ih h
theorem am_la_at {ls : List Value} {a : Nat} {x : Nat} (h : am_la ls a = some x) : ls[a]? = some (.ref x) := by
  induction ls generalizing a with
  | nil => simp [am_la] at h
  | cons v l ih =>
    cases a with
    | zero =>
      unfold am_la at h
      split at h
      · simp only [List.getElem?_cons_zero]; rw [Option.some.inj h]
      · exact (Option.some_ne_none _ h.symm).elim
    | succ a => simpa using ih h
/-- the locals ls of the abstract machine are held by rls -/
def am_L (G : am_G) (n : Nat) (rls : Array Slot) (ls : List Value) : Prop := lv_has rls n (am_ll G ls) ∧ ls.length = n
theorem am_L.int {G : am_G} {n : Nat} {rls : Array Slot} {ls : List Value} (hl : am_L G n rls ls) {a : Nat} {x : Int32} (h : am_li ls a = some x) : rls[a]? = some (.val (.int x)) :=
  hl.1.2.2 (a, .int x) ((am_ll_mem G ls _).mpr ⟨_, am_li_at h, rfl⟩)
theorem am_L.ref {G : am_G} {n : Nat} {rls : Array Slot} {ls : List Value} (hl : am_L G n rls ls) {a : Nat} {x : Nat} (h : am_la ls a = some x) : rls[a]? = some (.val (.ref (G.1 x))) :=
  hl.1.2.2 (a, .ref (G.1 x)) ((am_ll_mem G ls _).mpr ⟨_, am_la_at h, rfl⟩)
theorem am_L.set {G : am_G} {n : Nat} {rls rls' : Array Slot} {ls : List Value} {i : Nat} {x : Int32} (hl : am_L G n rls ls) (h' : lv_has rls' n ((i, Value.int x) :: (am_ll G ls).filter (fun q => !(q.1 == i) && !(q.1 + 1 == i && q.2.category == 2)))) : am_L G n rls' (ls.set i (.int x)) := by
  refine ⟨⟨h'.1, h'.2.1, fun q hq => h'.2.2 q ?_⟩, by rw [List.length_set]; exact hl.2⟩
  obtain ⟨v, h1, h2⟩ := (am_ll_mem G _ q).mp hq
  by_cases hi : q.1 = i
  · have hlt : i < ls.length := by
      have := (List.getElem?_eq_some_iff.mp h1).1
      rw [List.length_set] at this
      omega
    rw [hi, List.getElem?_set_self hlt] at h1
    cases h1
    have h3 : Value.int x = q.2 := Option.some.inj h2
    rw [List.mem_cons]
    exact Or.inl (Prod.ext hi h3.symm)
  · rw [List.getElem?_set_ne (fun z => hi z.symm)] at h1
    refine List.mem_cons_of_mem _ (List.mem_filter.mpr ⟨(am_ll_mem G ls q).mpr ⟨v, h1, h2⟩, ?_⟩)
    simp [hi, am_vo_cat h2]
/-- what never changes of a heap: the script; exceptions only grow -/
def am_fr (h h' : am_H) : Prop := h.1 ≤ h'.1 ∧ h'.2 391 = h.2 391 ∧ h'.2 392 = h.2 392
theorem am_fr.rf (h : am_H) : am_fr h h := ⟨Nat.le_refl _, rfl, rfl⟩
theorem am_fr.tr {a b c : am_H} (h1 : am_fr a b) (h2 : am_fr b c) : am_fr a c := ⟨Nat.le_trans h1.1 h2.1, h2.2.1.trans h1.2.1, h2.2.2.trans h1.2.2⟩
theorem am_fr_up {h : am_H} {o i : Nat} {v : Int32} (ho : am_kd o ≠ 99) : am_fr h (am_up h o i v) := by
  have := am_kd_lt ho
  exact ⟨Nat.le_refl _, am_up_ne h i v (by unfold am_N at this; omega), am_up_ne h i v (by unfold am_N at this; omega)⟩
theorem am_fr_cp {h : am_H} {s d sp dp n : Nat} (ho : am_kd d ≠ 99) : am_fr h (am_cp h s sp d dp n) := by
  have := am_kd_lt ho
  exact ⟨Nat.le_refl _, am_cp_ne h sp dp n (by unfold am_N at this; omega), am_cp_ne h sp dp n (by unfold am_N at this; omega)⟩
theorem am_kk_lt {x b : Nat} (h : am_kk x b = true) (hb : b < 11 ∨ b = 35) : x < 11 := by
  unfold am_kk at h
  split at h
  · simp at h; omega
  · simp at h; omega
theorem am_kk_ne {x b : Nat} (h : am_kk x b = true) (hb : b < 11 ∨ b = 35) : x ≠ 99 := by have := am_kk_lt h hb; omega

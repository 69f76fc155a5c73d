theorem jw_code_len : Cond.code yJ0_length_8abf5 cJ0_length_8abf5 1 (some .int) ∈ am_T := am_inT3 63 (by decide +kernel) rfl
theorem jw_inst_len : Cond.instanceMethod yJ0_length_8abf5 ∈ am_T := am_inT3 61 (by decide +kernel) rfl
theorem jw_sel_len : Cond.selects "java/lang/String" yJ0_length_8abf5 yJ0_length_8abf5 ∈ am_T := am_inT3 62 (by decide +kernel) rfl
theorem jw_code_cod : Cond.code yJ0_coder_7d493 cJ0_coder_7d493 1 (some .byte) ∈ am_T := am_inT3 67 (by decide +kernel) rfl
theorem jw_inst_cod : Cond.instanceMethod yJ0_coder_7d493 ∈ am_T := am_inT3 65 (by decide +kernel) rfl
theorem jw_sel_cod : Cond.selects "java/lang/String" yJ0_coder_7d493 yJ0_coder_7d493 ∈ am_T := am_inT3 66 (by decide +kernel) rfl
theorem jw_code_lat : Cond.code yJ0_isLatin1_aae02 cJ0_isLatin1_aae02 1 (some .boolean) ∈ am_T := am_inT3 77 (by decide +kernel) rfl
theorem jw_inst_lat : Cond.instanceMethod yJ0_isLatin1_aae02 ∈ am_T := am_inT3 75 (by decide +kernel) rfl
theorem jw_sel_lat : Cond.selects "java/lang/String" yJ0_isLatin1_aae02 yJ0_isLatin1_aae02 ∈ am_T := am_inT3 76 (by decide +kernel) rfl
theorem jw_code_cha : Cond.code yJ0_charAt_5068e cJ0_charAt_5068e 2 (some .char) ∈ am_T := am_inT3 73 (by decide +kernel) rfl
theorem jw_inst_cha : Cond.instanceMethod yJ0_charAt_5068e ∈ am_T := am_inT3 71 (by decide +kernel) rfl
theorem jw_sel_cha : Cond.selects "java/lang/String" yJ0_charAt_5068e yJ0_charAt_5068e ∈ am_T := am_inT3 72 (by decide +kernel) rfl
theorem jw_code_chk : Cond.code yJ0_checkIndex_df160 cJ0_checkIndex_df160 2 none ∈ am_T := am_inT3 83 (by decide +kernel) rfl
theorem jw_st_chk : Cond.static yJ0_checkIndex_df160 ∈ am_T := am_inT3 82 (by decide +kernel) rfl
theorem jw_code_l1c : Cond.code yJ1_charAt_3b067 cJ1_charAt_3b067 2 (some .char) ∈ am_T := am_inT3 80 (by decide +kernel) rfl
theorem jw_st_l1c : Cond.static yJ1_charAt_3b067 ∈ am_T := am_inT3 79 (by decide +kernel) rfl
theorem jw_code_prc : Cond.code yJ3_checkIndex_8e157 cJ3_checkIndex_8e157 3 (some .int) ∈ am_T := am_inT3 88 (by decide +kernel) rfl
theorem jw_st_prc : Cond.static yJ3_checkIndex_8e157 ∈ am_T := am_inT3 87 (by decide +kernel) rfl
theorem jw_ini_S : Cond.initialized "java/lang/String" ∈ am_T := am_inT1 15 (by decide +kernel) rfl
theorem jw_ini_L : Cond.initialized "java/lang/StringLatin1" ∈ am_T := am_inT1 16 (by decide +kernel) rfl
theorem jw_ini_P : Cond.initialized "jdk/internal/util/Preconditions" ∈ am_T := am_inT1 17 (by decide +kernel) rfl
theorem jw_l335 : Cond.methodLink "java/lang/String" 335 yJ0_coder_7d493 ∈ am_T := am_inT3 64 (by decide +kernel) rfl
theorem jw_l492 : Cond.methodLink "java/lang/String" 492 yJ0_isLatin1_aae02 ∈ am_T := am_inT3 74 (by decide +kernel) rfl
theorem jw_l495 : Cond.methodLink "java/lang/String" 495 yJ1_charAt_3b067 ∈ am_T := am_inT3 78 (by decide +kernel) rfl
theorem jw_l9 : Cond.methodLink "java/lang/StringLatin1" 9 yJ0_checkIndex_df160 ∈ am_T := am_inT3 81 (by decide +kernel) rfl
theorem jw_l1059 : Cond.methodLink "java/lang/String" 1059 yJ3_checkIndex_8e157 ∈ am_T := am_inT3 86 (by decide +kernel) rfl
theorem jw_f9 : Cond.fieldLink "java/lang/String" 9 "java/lang/String" "value" "[B" ∈ am_T := am_inT9 166 (by decide +kernel) rfl
theorem jw_f15 : Cond.fieldLink "java/lang/String" 15 "java/lang/String" "coder" "B" ∈ am_T := am_inT9 167 (by decide +kernel) rfl
theorem jw_f38 : Cond.fieldLink "java/lang/String" 38 "java/lang/String" "COMPACT_STRINGS" "Z" ∈ am_T := am_inT3 68 (by decide +kernel) rfl
theorem jw_f1053 : Cond.fieldLink "java/lang/String" 1053 "jdk/internal/util/Preconditions" "SIOOBE_FORMATTER" "Ljava/util/function/BiFunction;" ∈ am_T := am_inT3 84 (by decide +kernel) rfl
theorem jd_chk : yJ0_checkIndex_df160.cls ≠ "java/lang/invoke/MethodHandle" ∧ yJ0_checkIndex_df160.cls ≠ "java/lang/invoke/VarHandle" ∧ (parseMethodDescriptor yJ0_checkIndex_df160.desc).map (fun d => d.parameters.length) = some 2 := by decide +kernel
theorem jd_prc : yJ3_checkIndex_8e157.cls ≠ "java/lang/invoke/MethodHandle" ∧ yJ3_checkIndex_8e157.cls ≠ "java/lang/invoke/VarHandle" ∧ (parseMethodDescriptor yJ3_checkIndex_8e157.desc).map (fun d => d.parameters.length) = some 3 := by decide +kernel
theorem jd_l1c : yJ1_charAt_3b067.cls ≠ "java/lang/invoke/MethodHandle" ∧ yJ1_charAt_3b067.cls ≠ "java/lang/invoke/VarHandle" ∧ (parseMethodDescriptor yJ1_charAt_3b067.desc).map (fun d => d.parameters.length) = some 2 := by decide +kernel
theorem jd_cha : yJ0_charAt_5068e.cls = "java/lang/String" ∧ yJ0_charAt_5068e.cls ≠ "java/lang/invoke/MethodHandle" ∧ yJ0_charAt_5068e.cls ≠ "java/lang/invoke/VarHandle" ∧ (parseMethodDescriptor yJ0_charAt_5068e.desc).map (fun d => d.parameters.length) = some 1 := by decide +kernel
/-! THE TEXTS' length() AND charAt(), by the JDK's own bytes -/
def am_Qn (v : Option Int32) : Array Value → State → Outcome → State → Prop := fun _ st o t => o = .returned (v.map Value.int) ∧ t.heap = st.heap
def am_Pj (G : am_G) (av : List Value) : Array Value → State → Prop := fun a U => a = av.toArray ∧ am_K G U U.heap
theorem am_Pj.blind (G : am_G) (av : List Value) : FrameBlind (am_Pj G av) := fun a U g mk q => ⟨q.1, am_K.same (u := U) (U := U.calling g mk a) rfl q.2⟩
def am_wj (y : MethodName) (cc : ByteArray) (maxL : Nat) (ret : Option FieldType) : List Cond := .code y cc maxL ret :: am_T
theorem am_wj_in {y : MethodName} {cc : ByteArray} {maxL : Nat} {ret : Option FieldType} (h : Cond.code y cc maxL ret ∈ am_T) : ∀ w ∈ am_wj y cc maxL ret, w ∈ am_T := fun w hw => by
  rcases List.mem_cons.mp hw with e | e
  · rw [e]; exact h
  · exact e
abbrev am_rj (f lo : Nat) : Room := { frames := f, cells := 0, slots := 0, locals := lo }
section AMJ
variable {p : Program} {l : Launch} {e : Env} {R : Room} {s : State} {m : MethodId} {args : Array Value} {below : List Frame} {meth : Method} {c : Code} {H : Heap} {locs : List Loc} {cells slots : Nat} {Q : State → Prop} {G : am_G} {pc : Nat} {ls : Array Slot} {rest st0 : List Value}
theorem am_callQ {v : Option Int32} {a : Array Value} (hr : va_Run p l e R s m args below meth c H locs cells slots 0 0 (F0 m pc ls st0) rest (am_Qn v a) (fun _ => False)) (kk : W p l e R s m args below meth c H locs cells slots Q (F0 m (pc + 3) ls ((v.map Value.int).toList ++ rest))) : W p l e R s m args below meth c H locs cells slots Q (F0 m pc ls st0) := by
  intro T hT X
  obtain ⟨v', st₀, t, T', L, h0, X', hL, e1, e2, ⟨hv, hh⟩, st⟩ := hr T hT X
  cases hv
  obtain ⟨t2, a1, b1⟩ := kk T' (by rw [e1, hh, h0]) (Stand.forget X' (fun q h => (hL q h).elim))
  exact ⟨t2, st t2 a1, b1⟩
/-- a static method of the JDK that only reads -/
theorem am_jS {y : MethodName} {bytes cc : ByteArray} {maxL nL index f lo : Nat} {ret : Option FieldType} {own : String} {v : Option Int32} {As : List Value} (hx : p.tables.exec = Jvm.exec) (hb : c.code = cc) (hml : c.maxLocals = nL) (hown : s.vm.findClass own = some m.cls) (hts : ∀ w ∈ am_T, w.before args s = true) (hK : am_K G s s.heap) (hS : va_S (am_A G) s.heap H locs)
    (hM : Met l y (am_wj y bytes maxL ret) (am_rj f lo) (am_Pj G As) (am_Qn v) 0 0 (fun _ => False)) (hcw : Cond.code y bytes maxL ret ∈ am_T) (hlk : Cond.methodLink own index y ∈ am_T) (hst : Cond.static y ∈ am_T) (hin : Cond.initialized y.cls ∈ am_T) (hd : y.cls ≠ "java/lang/invoke/MethodHandle" ∧ y.cls ≠ "java/lang/invoke/VarHandle" ∧ (parseMethodDescriptor y.desc).map (fun d => d.parameters.length) = some As.length) (hR : f + 1 ≤ R.frames ∧ 8 + (maxL + 11) + lo ≤ R.locals) (hsz : ls.size = nL) (h8 : (rest.map fun v => v.category).sum ≤ 8) (hc : cells ≤ R.cells) (hs : slots ≤ R.slots) (hdg : decode cc pc = .ok (.invokestatic index, 3)) (hst0 : st0 = As.reverse ++ rest)
    (kk : W p l e R s m args below meth c H locs cells slots Q (F0 m (pc + 3) ls ((v.map Value.int).toList ++ rest))) : W p l e R s m args below meth c H locs cells slots Q (F0 m pc ls st0) := by
  have hT : GoodIn am_T (va_wsS own index y (am_wj y bytes maxL ret)) := am_goodIn (fun w hw => by
    simp only [va_wsS, List.cons_append, List.nil_append, List.mem_cons] at hw
    rcases hw with e | e | e | e
    · rw [e]; exact hlk
    · rw [e]; exact hst
    · rw [e]; exact hin
    · exact am_wj_in hcw w e)
  exact am_callQ (va_runS (As := As) (Ts := am_T) (own := own) (nL := nL) (cc := cc) ⟨hx, hb, hml, hown, hts⟩ hM (va_cwS As.length hts hT rfl rfl rfl hd hR) ⟨am_Pj.blind G As, fun U hU hW => ⟨rfl, by rw [hU]; exact (hK.kept hS.2.1).warm hW⟩⟩ rfl rfl hsz hst0 (lv_room h8) hdg ⟨hc, hs⟩) kk
/-- a method of a text that only reads -/
theorem am_jV {y : MethodName} {bytes cc : ByteArray} {maxL nL index f lo i : Nat} {ret : Option FieldType} {own : String} {v : Option Int32} {As : List Value} (hx : p.tables.exec = Jvm.exec) (hb : c.code = cc) (hml : c.maxLocals = nL) (hown : s.vm.findClass own = some m.cls) (hts : ∀ w ∈ am_T, w.before args s = true) (hK : am_K G s s.heap) (hS : va_S (am_A G) s.heap H locs) (hi : i < am_sN)
    (hM : Met l y (am_wj y bytes maxL ret) (am_rj f lo) (am_Pj G (.ref (G.1 (1000 + i)) :: As)) (am_Qn v) 0 0 (fun _ => False)) (hyc : y.cls = "java/lang/String") (hcw : Cond.code y bytes maxL ret ∈ am_T) (hlk : Cond.methodLink own index y ∈ am_T) (hst : Cond.instanceMethod y ∈ am_T) (hse : Cond.selects "java/lang/String" y y ∈ am_T) (hin : Cond.initialized "java/lang/String" ∈ am_T) (hd : y.cls = "java/lang/String" ∧ y.cls ≠ "java/lang/invoke/MethodHandle" ∧ y.cls ≠ "java/lang/invoke/VarHandle" ∧ (parseMethodDescriptor y.desc).map (fun d => d.parameters.length) = some As.length) (hR : f + 1 ≤ R.frames ∧ 8 + (maxL + 11) + lo ≤ R.locals) (hsz : ls.size = nL) (h8 : (rest.map fun v => v.category).sum ≤ 8) (hc : cells ≤ R.cells) (hs : slots ≤ R.slots) (hdg : decode cc pc = .ok (.invokevirtual index, 3)) (hst0 : st0 = As.reverse ++ .ref (G.1 (1000 + i)) :: rest)
    (kk : W p l e R s m args below meth c H locs cells slots Q (F0 m (pc + 3) ls ((v.map Value.int).toList ++ rest))) : W p l e R s m args below meth c H locs cells slots Q (F0 m pc ls st0) := by
  have hT : GoodIn am_T (wsV own index "java/lang/String" y (am_wj y bytes maxL ret)) := am_goodIn (fun w hw => by
    simp only [wsV, List.cons_append, List.nil_append, List.mem_cons] at hw
    rcases hw with e | e | e | e | e
    · rw [e]; exact hlk
    · rw [e]; exact hst
    · rw [e]; exact hse
    · rw [e]; exact hin
    · exact am_wj_in hcw w e)
  obtain ⟨cell, g1, g2, g3, -⟩ := ((hK.2.2.1 i hi).2.1).kept hS.2.1
  exact am_callQ (va_runV (As := As) (Ts := am_T) (own := own) (nL := nL) (cc := cc) (C := "java/lang/String") ⟨hx, hb, hml, hown, hts⟩ hM (cwV As.length hts hT rfl rfl rfl hd hR) ⟨am_Pj.blind G _, ⟨cell, g1, g2, g3⟩, fun U hU hW => ⟨rfl, by rw [hU]; exact (hK.kept hS.2.1).warm hW⟩⟩ rfl rfl hsz hst0 (lv_room h8) hdg ⟨hc, hs⟩) kk
end AMJ
section AMJ2
variable {l : Launch} {G : am_G} {i : Nat}
theorem am_j_cod (hi : i < am_sN) : Met l yJ0_coder_7d493 (am_wj yJ0_coder_7d493 cJ0_coder_7d493 1 (some .byte)) (am_rj 0 0) (am_Pj G [.ref (G.1 (1000 + i))]) (am_Qn (some 0)) 0 0 (fun _ => False) := by
  refine Met.ofW (cc := cJ0_coder_7d493) (maxL := 1) (ret := (some .byte)) (by decide) rfl ?_
  intro p e s m args below meth c s₁ B hml hv
  obtain ⟨rfl, hK⟩ := hv
  have hx := B.exec
  have hb := B.bytes
  have hr := B.returns
  have hts : ∀ w ∈ am_T, w.before _ s = true := fun w hw => atoms_spec (ws := am_wj yJ0_coder_7d493 cJ0_coder_7d493 1 (some .byte)) B.pre w (List.mem_cons_of_mem _ hw)
  have hown : s.vm.findClass RJ0 = some m.cls := findClass_of_methodNamed B.named
  have hlocks := B.notSynchronized
  have hS : va_S (am_A G) s.heap s.heap [] := va_S.rf
  have hl := lv_entry ([.ref (G.1 (1000 + i))]) (n := 1) (Nat.le_of_ble_eq_true rfl)
  rw [lg_entry_eq]
  generalize (lg_sl ([.ref (G.1 (1000 + i))]) ++ List.replicate (1 - (lg_sl ([.ref (G.1 (1000 + i))])).length) Slot.unset).toArray = ls at hl ⊢
  have hl : lv_has ls 1 [(0, .ref (G.1 (1000 + i)))] := hl
  refine va_gets hx hb hK.2.2.2.2.2.1 hS hown (hts _ jw_f38) (fun _ h9 => h9) dJ0_coder_7d493_0 ?_
  refine lv_if_eq (tgt := 13) hx hb dJ0_coder_7d493_3 (by decide) (fun q => absurd q (by decide)) (fun _ => ?_)
  refine lv_aload_n hx hb dJ0_coder_7d493_6 rfl (lv_at hl 0 rfl) ?_
  refine vk_getf hx hb (hK.2.2.1 i hi).2.2.1 hS hown (hts _ jw_f15) (fun _ h9 => h9) dJ0_coder_7d493_7 ?_
  refine lv_goto (tgt := 14) hx hb dJ0_coder_7d493_10 (by decide) ?_
  exact W.zret hx hb hr rfl (fun t ht _ => ⟨rfl, ht⟩) (fun q h => by cases h) dJ0_coder_7d493_14 hlocks
theorem am_j_lat (hi : i < am_sN) : Met l yJ0_isLatin1_aae02 (am_wj yJ0_isLatin1_aae02 cJ0_isLatin1_aae02 1 (some .boolean)) (am_rj 0 0) (am_Pj G [.ref (G.1 (1000 + i))]) (am_Qn (some 1)) 0 0 (fun _ => False) := by
  refine Met.ofW (cc := cJ0_isLatin1_aae02) (maxL := 1) (ret := (some .boolean)) (by decide) rfl ?_
  intro p e s m args below meth c s₁ B hml hv
  obtain ⟨rfl, hK⟩ := hv
  have hx := B.exec
  have hb := B.bytes
  have hr := B.returns
  have hts : ∀ w ∈ am_T, w.before _ s = true := fun w hw => atoms_spec (ws := am_wj yJ0_isLatin1_aae02 cJ0_isLatin1_aae02 1 (some .boolean)) B.pre w (List.mem_cons_of_mem _ hw)
  have hown : s.vm.findClass RJ0 = some m.cls := findClass_of_methodNamed B.named
  have hlocks := B.notSynchronized
  have hS : va_S (am_A G) s.heap s.heap [] := va_S.rf
  have hl := lv_entry ([.ref (G.1 (1000 + i))]) (n := 1) (Nat.le_of_ble_eq_true rfl)
  rw [lg_entry_eq]
  generalize (lg_sl ([.ref (G.1 (1000 + i))]) ++ List.replicate (1 - (lg_sl ([.ref (G.1 (1000 + i))])).length) Slot.unset).toArray = ls at hl ⊢
  have hl : lv_has ls 1 [(0, .ref (G.1 (1000 + i)))] := hl
  refine va_gets hx hb hK.2.2.2.2.2.1 hS hown (hts _ jw_f38) (fun _ h9 => h9) dJ0_isLatin1_aae02_0 ?_
  refine lv_if_eq (tgt := 17) hx hb dJ0_isLatin1_aae02_3 (by decide) (fun q => absurd q (by decide)) (fun _ => ?_)
  refine lv_aload_n hx hb dJ0_isLatin1_aae02_6 rfl (lv_at hl 0 rfl) ?_
  refine vk_getf hx hb (hK.2.2.1 i hi).2.2.1 hS hown (hts _ jw_f15) (fun _ h9 => h9) dJ0_isLatin1_aae02_7 ?_
  refine lv_if_ne (tgt := 17) hx hb dJ0_isLatin1_aae02_10 (by decide) (fun q => absurd rfl q) (fun _ => ?_)
  refine lv_iconst (v := 1) hx hb dJ0_isLatin1_aae02_13 (by decide) ?_
  refine lv_goto (tgt := 18) hx hb dJ0_isLatin1_aae02_14 (by decide) ?_
  exact W.zret hx hb hr rfl (fun t ht _ => ⟨rfl, ht⟩) (fun q h => by cases h) dJ0_isLatin1_aae02_18 hlocks
theorem am_j_len (hi : i < am_sN) : Met l yJ0_length_8abf5 (am_wj yJ0_length_8abf5 cJ0_length_8abf5 1 (some .int)) (am_rj 1 20) (am_Pj G [.ref (G.1 (1000 + i))]) (am_Qn (some (Int32.ofNat (am_str i).length))) 0 0 (fun _ => False) := by
  refine Met.ofW (cc := cJ0_length_8abf5) (maxL := 1) (ret := (some .int)) (by decide) rfl ?_
  intro p e s m args below meth c s₁ B hml hv
  obtain ⟨rfl, hK⟩ := hv
  have hx := B.exec
  have hb := B.bytes
  have hr := B.returns
  have hts : ∀ w ∈ am_T, w.before _ s = true := fun w hw => atoms_spec (ws := am_wj yJ0_length_8abf5 cJ0_length_8abf5 1 (some .int)) B.pre w (List.mem_cons_of_mem _ hw)
  have hown : s.vm.findClass RJ0 = some m.cls := findClass_of_methodNamed B.named
  have hlocks := B.notSynchronized
  have hS : va_S (am_A G) s.heap s.heap [] := va_S.rf
  have hl := lv_entry ([.ref (G.1 (1000 + i))]) (n := 1) (Nat.le_of_ble_eq_true rfl)
  rw [lg_entry_eq]
  generalize (lg_sl ([.ref (G.1 (1000 + i))]) ++ List.replicate (1 - (lg_sl ([.ref (G.1 (1000 + i))])).length) Slot.unset).toArray = ls at hl ⊢
  have hl : lv_has ls 1 [(0, .ref (G.1 (1000 + i)))] := hl
  refine lv_aload_n hx hb dJ0_length_8abf5_0 rfl (lv_at hl 0 rfl) ?_
  refine vk_getf hx hb (hK.2.2.1 i hi).2.2.2.1 hS hown (hts _ jw_f9) (fun _ h9 => h9) dJ0_length_8abf5_1 ?_
  refine va_tlen hx hb (hK.2.2.1 i hi).2.2.2.2 hS rfl dJ0_length_8abf5_4 ?_
  refine lv_aload_n hx hb dJ0_length_8abf5_5 rfl (lv_at hl 0 rfl) ?_
  refine am_jV (G := G) (As := []) (v := some 0) (nL := 1) hx hb hml hown hts hK hS hi (am_j_cod hi) rfl jw_code_cod jw_l335 jw_inst_cod jw_sel_cod jw_ini_S (by decide +kernel) ⟨Nat.le_of_ble_eq_true rfl, Nat.le_of_ble_eq_true rfl⟩ hl.1 (Nat.le_of_ble_eq_true rfl) (Nat.le_refl 0) (Nat.le_refl 0) dJ0_length_8abf5_6 rfl ?_
  refine lv_ishr hx hb dJ0_length_8abf5_9 ?_
  rw [sb_shr0]
  exact W.iret hx hb hr (fun t ht _ => ⟨rfl, ht⟩) (fun q h => by cases h) dJ0_length_8abf5_10 hlocks
theorem am_j_prc {x : Int32} {n : Nat} {bf : Value} (hbf : bf = .null ∨ ∃ t : Nat, bf = .ref t) (hn : n < 2 ^ 31) (hxn : am_in x n = true) : Met l yJ3_checkIndex_8e157 (am_wj yJ3_checkIndex_8e157 cJ3_checkIndex_8e157 3 (some .int)) (am_rj 0 0) (am_Pj G [.int x, .int (Int32.ofNat n), bf]) (am_Qn (some x)) 0 0 (fun _ => False) := by
  refine Met.ofW (cc := cJ3_checkIndex_8e157) (maxL := 3) (ret := (some .int)) (by decide) rfl ?_
  intro p e s m args below meth c s₁ B hml hv
  obtain ⟨rfl, hK⟩ := hv
  have hx := B.exec
  have hb := B.bytes
  have hr := B.returns
  have hlocks := B.notSynchronized
  have hc2 : bf.category = 1 := by rcases hbf with rfl | ⟨t, rfl⟩ <;> rfl
  have hl := lv_entry ([.int x, .int (Int32.ofNat n), bf]) (n := 3) (by rcases hbf with rfl | ⟨t, rfl⟩ <;> exact Nat.le_of_ble_eq_true rfl)
  rw [lg_entry_eq]
  generalize (lg_sl ([.int x, .int (Int32.ofNat n), bf]) ++ List.replicate (3 - (lg_sl ([.int x, .int (Int32.ofNat n), bf])).length) Slot.unset).toArray = ls at hl ⊢
  have h0 : ls[0]? = some (.val (.int x)) := hl.2.2 (0, .int x) (by simp [lv_args])
  have h1 : ls[1]? = some (.val (.int (Int32.ofNat n))) := hl.2.2 (1, .int (Int32.ofNat n)) (by simp [lv_args, Value.category])
  obtain ⟨j, hj, rfl⟩ := vp_in_of (am_in_vp hxn) hn
  refine lv_iload_n hx hb dJ3_checkIndex_8e157_0 rfl h0 ?_
  refine lv_if_lt (tgt := 9) hx hb dJ3_checkIndex_8e157_1 (by decide) (fun q => absurd q (nI_pos (by omega))) (fun _ => ?_)
  refine lv_iload_n hx hb dJ3_checkIndex_8e157_4 rfl h0 ?_
  refine lv_iload_n hx hb dJ3_checkIndex_8e157_5 rfl h1 ?_
  refine lv_icmp_lt (tgt := 16) hx hb dJ3_checkIndex_8e157_6 (by decide) (fun _ => ?_) (fun q => absurd (nI_lt hj hn) q)
  refine lv_iload_n hx hb dJ3_checkIndex_8e157_16 rfl h0 ?_
  exact W.iret hx hb hr (fun t ht _ => ⟨rfl, ht⟩) (fun q h => by cases h) dJ3_checkIndex_8e157_17 hlocks
theorem am_j_chk {x : Int32} {n : Nat} (hn : n < 2 ^ 31) (hxn : am_in x n = true) : Met l yJ0_checkIndex_df160 (am_wj yJ0_checkIndex_df160 cJ0_checkIndex_df160 2 none) (am_rj 1 22) (am_Pj G [.int x, .int (Int32.ofNat n)]) (am_Qn none) 0 0 (fun _ => False) := by
  refine Met.ofW (cc := cJ0_checkIndex_df160) (maxL := 2) (ret := none) (by decide) rfl ?_
  intro p e s m args below meth c s₁ B hml hv
  obtain ⟨rfl, hK⟩ := hv
  have hx := B.exec
  have hb := B.bytes
  have hr := B.returns
  have hts : ∀ w ∈ am_T, w.before _ s = true := fun w hw => atoms_spec (ws := am_wj yJ0_checkIndex_df160 cJ0_checkIndex_df160 2 none) B.pre w (List.mem_cons_of_mem _ hw)
  have hown : s.vm.findClass RJ0 = some m.cls := findClass_of_methodNamed B.named
  have hlocks := B.notSynchronized
  have hS : va_S (am_A G) s.heap s.heap [] := va_S.rf
  have hl := lv_entry ([.int x, .int (Int32.ofNat n)]) (n := 2) (Nat.le_of_ble_eq_true rfl)
  rw [lg_entry_eq]
  generalize (lg_sl ([.int x, .int (Int32.ofNat n)]) ++ List.replicate (2 - (lg_sl ([.int x, .int (Int32.ofNat n)])).length) Slot.unset).toArray = ls at hl ⊢
  have hl : lv_has ls 2 [(0, .int x), (1, .int (Int32.ofNat n))] := hl
  refine lv_iload_n hx hb dJ0_checkIndex_df160_0 rfl (lv_at hl 0 rfl) ?_
  refine lv_iload_n hx hb dJ0_checkIndex_df160_1 rfl (lv_at hl 1 rfl) ?_
  have go : ∀ bf : Value, (bf = .null ∨ ∃ t : Nat, bf = .ref t) → W p l e (headSpec (am_wj yJ0_checkIndex_df160 cJ0_checkIndex_df160 2 none) (am_rj 1 22)).room s m _ below meth c s.heap [] 0 0 (MQ below (am_Qn none) _ s 0 0 (fun _ => False)) (F0 m 5 ls [bf, .int (Int32.ofNat n), .int x]) := fun bf hbf => by
    refine am_jS (G := G) (As := [.int x, .int (Int32.ofNat n), bf]) (rest := []) (v := some x) (nL := 2) hx hb hml hown hts hK hS (am_j_prc hbf hn hxn) jw_code_prc jw_l1059 jw_st_prc jw_ini_P jd_prc ⟨Nat.le_of_ble_eq_true rfl, Nat.le_of_ble_eq_true rfl⟩ hl.1 (Nat.le_of_ble_eq_true rfl) (Nat.le_refl 0) (Nat.le_refl 0) dJ0_checkIndex_df160_5 rfl ?_
    refine lv_pop hx hb dJ0_checkIndex_df160_8 rfl ?_
    exact W.vret hx hb hr (fun t ht _ => ⟨rfl, ht⟩) (fun q h => by cases h) dJ0_checkIndex_df160_9 hlocks
  rcases hK.2.2.2.2.2.2.1 with hZ | ⟨t, hZ⟩
  · exact va_gets hx hb hZ hS hown (hts _ jw_f1053) (fun _ h9 => h9) dJ0_checkIndex_df160_2 (go .null (Or.inl rfl))
  · exact va_gets hx hb hZ hS hown (hts _ jw_f1053) (fun _ h9 => h9) dJ0_checkIndex_df160_2 (go (.ref t) (Or.inr ⟨t, rfl⟩))
theorem am_str_bytes : am_strL.all (fun q => q.all (fun v => v &&& 255 == v)) = true := by decide +kernel
theorem am_str_byte (i j : Nat) : (am_str i).getD j 0 &&& 255 = (am_str i).getD j 0 := by
  unfold am_str
  rw [List.getD_eq_getElem?_getD, List.getD_eq_getElem?_getD]
  cases hi : am_strL[i]? with
  | none => show ((([] : List Int32))[j]?).getD 0 &&& 255 = ((([] : List Int32))[j]?).getD 0; rw [List.getElem?_nil]; decide
  | some q =>
    show (q[j]?).getD 0 &&& 255 = (q[j]?).getD 0
    cases hj : q[j]? with
    | none => rfl
    | some v =>
      have := List.all_eq_true.mp (List.all_eq_true.mp am_str_bytes q (List.mem_of_getElem? hi)) v (List.mem_of_getElem? hj)
      simpa using this
theorem am_str_lens : am_strL.all (fun q => decide (q.length < 1000)) = true := by decide +kernel
theorem am_str_len (i : Nat) : (am_str i).length < 2 ^ 31 := by
  unfold am_str
  rw [List.getD_eq_getElem?_getD]
  cases hi : am_strL[i]? with
  | none => exact Nat.le_of_ble_eq_true rfl
  | some q =>
    have := List.all_eq_true.mp am_str_lens q (List.mem_of_getElem? hi)
    have h2 : q.length < 1000 := by simpa using this
    show q.length < _
    omega
theorem am_j_l1c {x : Int32} (hi : i < am_sN) (hxn : am_in x (am_str i).length = true) : Met l yJ1_charAt_3b067 (am_wj yJ1_charAt_3b067 cJ1_charAt_3b067 2 (some .char)) (am_rj 2 43) (am_Pj G [.ref (G.2.2.2.1 i), .int x]) (am_Qn (some ((am_str i).getD x.toNatClampNeg 0))) 0 0 (fun _ => False) := by
  refine Met.ofW (cc := cJ1_charAt_3b067) (maxL := 2) (ret := (some .char)) (by decide) rfl ?_
  intro p e s m args below meth c s₁ B hml hv
  obtain ⟨rfl, hK⟩ := hv
  have hx := B.exec
  have hb := B.bytes
  have hr := B.returns
  have hts : ∀ w ∈ am_T, w.before _ s = true := fun w hw => atoms_spec (ws := am_wj yJ1_charAt_3b067 cJ1_charAt_3b067 2 (some .char)) B.pre w (List.mem_cons_of_mem _ hw)
  have hown : s.vm.findClass RJ1 = some m.cls := findClass_of_methodNamed B.named
  have hlocks := B.notSynchronized
  have hS : va_S (am_A G) s.heap s.heap [] := va_S.rf
  have hl := lv_entry ([.ref (G.2.2.2.1 i), .int x]) (n := 2) (Nat.le_of_ble_eq_true rfl)
  rw [lg_entry_eq]
  generalize (lg_sl ([.ref (G.2.2.2.1 i), .int x]) ++ List.replicate (2 - (lg_sl ([.ref (G.2.2.2.1 i), .int x])).length) Slot.unset).toArray = ls at hl ⊢
  have hl : lv_has ls 2 [(0, .ref (G.2.2.2.1 i)), (1, .int x)] := hl
  refine lv_iload_n hx hb dJ1_charAt_3b067_0 rfl (lv_at hl 1 rfl) ?_
  refine lv_aload_n hx hb dJ1_charAt_3b067_1 rfl (lv_at hl 0 rfl) ?_
  refine va_tlen hx hb (hK.2.2.1 i hi).2.2.2.2 hS rfl dJ1_charAt_3b067_2 ?_
  refine am_jS (G := G) (As := [.int x, .int (Int32.ofNat (am_str i).length)]) (rest := []) (v := none) (nL := 2) hx hb hml hown hts hK hS (am_j_chk (am_str_len i) hxn) jw_code_chk jw_l9 jw_st_chk jw_ini_S jd_chk ⟨Nat.le_of_ble_eq_true rfl, Nat.le_of_ble_eq_true rfl⟩ hl.1 (Nat.le_of_ble_eq_true rfl) (Nat.le_refl 0) (Nat.le_refl 0) dJ1_charAt_3b067_3 rfl ?_
  refine lv_aload_n hx hb dJ1_charAt_3b067_6 rfl (lv_at hl 0 rfl) ?_
  refine lv_iload_n hx hb dJ1_charAt_3b067_7 rfl (lv_at hl 1 rfl) ?_
  refine va_tb hx hb (hK.2.2.1 i hi).2.2.2.2 hS (am_in_vp hxn) rfl dJ1_charAt_3b067_8 ?_
  refine lv_sipush (v := 255) hx hb dJ1_charAt_3b067_9 (by decide) ?_
  refine lv_iand hx hb dJ1_charAt_3b067_12 ?_
  refine lv_i2c hx hb dJ1_charAt_3b067_13 (sc_c2 _) ?_
  refine W.zret hx hb hr (sc_nar _) (fun t ht _ => ⟨?_, ht⟩) (fun q h => by cases h) dJ1_charAt_3b067_14 hlocks
  rw [am_str_byte]
  rfl
theorem am_j_cha {x : Int32} (hi : i < am_sN) (hxn : am_in x (am_str i).length = true) : Met l yJ0_charAt_5068e (am_wj yJ0_charAt_5068e cJ0_charAt_5068e 2 (some .char)) (am_rj 3 64) (am_Pj G [.ref (G.1 (1000 + i)), .int x]) (am_Qn (some ((am_str i).getD x.toNatClampNeg 0))) 0 0 (fun _ => False) := by
  refine Met.ofW (cc := cJ0_charAt_5068e) (maxL := 2) (ret := (some .char)) (by decide) rfl ?_
  intro p e s m args below meth c s₁ B hml hv
  obtain ⟨rfl, hK⟩ := hv
  have hx := B.exec
  have hb := B.bytes
  have hr := B.returns
  have hts : ∀ w ∈ am_T, w.before _ s = true := fun w hw => atoms_spec (ws := am_wj yJ0_charAt_5068e cJ0_charAt_5068e 2 (some .char)) B.pre w (List.mem_cons_of_mem _ hw)
  have hown : s.vm.findClass RJ0 = some m.cls := findClass_of_methodNamed B.named
  have hlocks := B.notSynchronized
  have hS : va_S (am_A G) s.heap s.heap [] := va_S.rf
  have hl := lv_entry ([.ref (G.1 (1000 + i)), .int x]) (n := 2) (Nat.le_of_ble_eq_true rfl)
  rw [lg_entry_eq]
  generalize (lg_sl ([.ref (G.1 (1000 + i)), .int x]) ++ List.replicate (2 - (lg_sl ([.ref (G.1 (1000 + i)), .int x])).length) Slot.unset).toArray = ls at hl ⊢
  have hl : lv_has ls 2 [(0, .ref (G.1 (1000 + i))), (1, .int x)] := hl
  refine lv_aload_n hx hb dJ0_charAt_5068e_0 rfl (lv_at hl 0 rfl) ?_
  refine am_jV (G := G) (As := []) (v := some 1) (nL := 2) hx hb hml hown hts hK hS hi (am_j_lat hi) rfl jw_code_lat jw_l492 jw_inst_lat jw_sel_lat jw_ini_S (by decide +kernel) ⟨Nat.le_of_ble_eq_true rfl, Nat.le_of_ble_eq_true rfl⟩ hl.1 (Nat.le_of_ble_eq_true rfl) (Nat.le_refl 0) (Nat.le_refl 0) dJ0_charAt_5068e_1 rfl ?_
  refine lv_if_eq (tgt := 16) hx hb dJ0_charAt_5068e_4 (by decide) (fun q => absurd q (by decide)) (fun _ => ?_)
  refine lv_aload_n hx hb dJ0_charAt_5068e_7 rfl (lv_at hl 0 rfl) ?_
  refine vk_getf hx hb (hK.2.2.1 i hi).2.2.2.1 hS hown (hts _ jw_f9) (fun _ h9 => h9) dJ0_charAt_5068e_8 ?_
  refine lv_iload_n hx hb dJ0_charAt_5068e_11 rfl (lv_at hl 1 rfl) ?_
  refine am_jS (G := G) (As := [.ref (G.2.2.2.1 i), .int x]) (rest := []) (v := some ((am_str i).getD x.toNatClampNeg 0)) (nL := 2) hx hb hml hown hts hK hS (am_j_l1c hi hxn) jw_code_l1c jw_l495 jw_st_l1c jw_ini_L jd_l1c ⟨Nat.le_of_ble_eq_true rfl, Nat.le_of_ble_eq_true rfl⟩ hl.1 (Nat.le_of_ble_eq_true rfl) (Nat.le_refl 0) (Nat.le_refl 0) dJ0_charAt_5068e_12 rfl ?_
  refine W.zret hx hb hr ?_ (fun t ht _ => ⟨rfl, ht⟩) (fun q h => by cases h) dJ0_charAt_5068e_15 hlocks
  rw [← am_str_byte]
  exact sc_nar _
end AMJ2
theorem am_SL_ok : am_SL := by
  intro k G p l en R s m args below meth c H locs cells slots Q rls st pc idx i hC hS hsz h8 hc hs hi hd hlk kk
  obtain ⟨c1, c2, c3, c4, c5, c6, c7, c8, c9, c10, c11⟩ := hC
  exact am_jV (G := G) (As := []) (v := some (Int32.ofNat (am_str i).length)) (nL := am_mL k) c1 c2 c3 c4 c5 c6 hS hi (am_j_len hi) rfl jw_code_len hlk jw_inst_len jw_sel_len jw_ini_S (by decide +kernel) ⟨by omega, by omega⟩ hsz h8 hc hs hd rfl (kk H locs rfl hS)
theorem am_SC_ok : am_SC := by
  intro k G p l en R s m args below meth c H locs cells slots Q rls st pc idx i x hC hS hsz h8 hc hs hi hxn hd hlk kk
  obtain ⟨c1, c2, c3, c4, c5, c6, c7, c8, c9, c10, c11⟩ := hC
  exact am_jV (G := G) (As := [.int x]) (v := some ((am_str i).getD x.toNatClampNeg 0)) (nL := am_mL k) c1 c2 c3 c4 c5 c6 hS hi (am_j_cha hi hxn) rfl jw_code_cha hlk jw_inst_cha jw_sel_cha jw_ini_S jd_cha ⟨by omega, by omega⟩ hsz h8 hc hs hd rfl (kk H locs rfl hS)

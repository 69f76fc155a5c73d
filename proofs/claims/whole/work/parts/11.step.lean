/-! ONE STEP THAT GOES STRAIGHT ON, over the machine -/
/-- words of the JDK's own methods -/
def am_JW : Prop := Cond.static Lib.Math.min.name ∈ am_T ∧ Cond.static Lib.Math.max.name ∈ am_T ∧ Cond.static Lib.Math.abs.name ∈ am_T ∧ Cond.initialized "java/lang/Math" ∈ am_T ∧ Cond.code Lib.Math.min.name Lib.Math.min.code 2 (some .int) ∈ am_T ∧ Cond.code Lib.Math.max.name Lib.Math.max.code 2 (some .int) ∈ am_T ∧ Cond.code Lib.Math.abs.name Lib.Math.abs.code 1 (some .int) ∈ am_T ∧ Cond.native arraycopyName ∈ am_T ∧ Cond.static arraycopyName ∈ am_T ∧ Cond.initialized "java/lang/System" ∈ am_T
/-- a text's length -/
def am_SL : Prop := ∀ (k : Nat) (G : am_G) (p : Program) (l : Launch) (en : Env) (R : Room) (s : State) (m : MethodId) (args : Array Value) (below : List Frame) (meth : Method) (c : Code) (H : Heap) (locs : List Loc) (cells slots : Nat) (Q : State → Prop) (rls : Array Slot) (st : List Value) (pc idx i : Nat), am_Cx k G p l R s m args meth c → va_S (am_A G) s.heap H locs → rls.size = am_mL k → (st.map fun v => v.category).sum ≤ 8 → cells ≤ R.cells → slots ≤ R.slots → i < am_sN → decode (am_cc k) pc = .ok (.invokevirtual idx, 3) → Cond.methodLink (am_ow k) idx am_ySl ∈ am_T → (∀ H1 locs1, H1 = H → va_S (am_A G) s.heap H1 locs1 → W p l en R s m args below meth c H1 locs1 cells slots Q (F0 m (pc + 3) rls (.int (Int32.ofNat (am_str i).length) :: st))) → W p l en R s m args below meth c H locs cells slots Q (F0 m pc rls (.ref (G.1 (1000 + i)) :: st))
/-- a text's byte -/
def am_SC : Prop := ∀ (k : Nat) (G : am_G) (p : Program) (l : Launch) (en : Env) (R : Room) (s : State) (m : MethodId) (args : Array Value) (below : List Frame) (meth : Method) (c : Code) (H : Heap) (locs : List Loc) (cells slots : Nat) (Q : State → Prop) (rls : Array Slot) (st : List Value) (pc idx i : Nat) (x : Int32), am_Cx k G p l R s m args meth c → va_S (am_A G) s.heap H locs → rls.size = am_mL k → (st.map fun v => v.category).sum ≤ 8 → cells ≤ R.cells → slots ≤ R.slots → i < am_sN → am_in x (am_str i).length = true → decode (am_cc k) pc = .ok (.invokevirtual idx, 3) → Cond.methodLink (am_ow k) idx am_ySc ∈ am_T → (∀ H1 locs1, H1 = H → va_S (am_A G) s.heap H1 locs1 → W p l en R s m args below meth c H1 locs1 cells slots Q (F0 m (pc + 3) rls (.int ((am_str i).getD x.toNatClampNeg 0) :: st))) → W p l en R s m args below meth c H locs cells slots Q (F0 m pc rls (.int x :: .ref (G.1 (1000 + i)) :: st))
theorem am_rowT {G : am_G} {o j : Nat} (v : Value) (hv : v = .ref (G.1 (o + 1 + j))) : va_rf (some (G.1 (o + 1 + j))) = v := hv.symm
set_option maxHeartbeats 8000000 in
theorem am_row {p : Program} {l : Launch} {en : Env} {R : Room} {s : State} {m : MethodId} {args : Array Value} {below : List Frame} {meth : Method} {c : Code} {H : Heap} {locs : List Loc} {cells slots : Nat} {Q : State → Prop} {G : am_G} {k pc np : Nat} {rls : Array Slot} {h : am_H} {ls st : List Value} {op a b : Nat} {z : Int32} {K : List Value → List Value → am_H → Option am_R} {r : am_R}
    (hcl : ∀ bb q, vwCl[bb]? = some q → am_cls bb q) (hJ : am_JW) (hSL : am_SL) (hSC : am_SC) (hC : am_Cx k G p l R s m args meth c) (hcR : cells ≤ R.cells) (hsR : slots ≤ R.slots) (hl : am_L G (am_mL k) rls ls) (hB : am_B G h s H locs) (hok : am_ok (am_kt k) pc op a b z np) (e : am_st op a b z ls st h K = some r)
    (kk : ∀ (ls1 st1 : List Value) (h1 : am_H) (rls1 : Array Slot) (H1 : Heap) (locs1 : List Loc), K ls1 st1 h1 = some r → am_L G (am_mL k) rls1 ls1 → am_B G h1 s H1 locs1 → am_fr h h1 → h1.1 = h.1 → W p l en R s m args below meth c H1 locs1 cells slots Q (F0 m np rls1 (st1.map (am_v G)))) : W p l en R s m args below meth c H locs cells slots Q (F0 m pc rls (st.map (am_v G))) := by
  have hx := hC.1
  have hb := hC.2.1
  have hml := hC.2.2.1
  have hown := hC.2.2.2.1
  have hts := hC.2.2.2.2.1
  have hK := hC.2.2.2.2.2.1.1
  have hsz : c.maxLocals = rls.size := hml.trans hl.1.1.symm
  have rf := am_fr.rf h
  have same : ∀ st1 : List Value, K ls st1 h = some r → W p l en R s m args below meth c H locs cells slots Q (F0 m np rls (st1.map (am_v G))) := fun st1 q => kk ls st1 h rls H locs q hl hB rf rfl
  unfold am_st at e
  split at e
  case h_1 =>
    rcases hok with ⟨n, d, hz, rfl⟩ | ⟨n, d, hz, rfl⟩ | ⟨n, d, hz, rfl⟩ | ⟨n, d, hz, rfl⟩ | ⟨n, d, hz, rfl⟩
    · exact lv_iconst hx hb d hz (same _ e)
    · exact lv_bipush hx hb d hz (same _ e)
    · exact lv_sipush hx hb d hz (same _ e)
    · exact lv_ldc hx hb hown (hts _ hz) d (same _ e)
    · exact lv_ldcw hx hb hown (hts _ hz) d (same _ e)
  case h_2 =>
    cases hq : am_li ls a with
    | none => rw [hq] at e; exact (Option.some_ne_none _ e.symm).elim
    | some x =>
      rw [hq] at e
      rcases hok with ⟨n, d, hz, rfl⟩ | ⟨d, rfl⟩
      · exact lv_iload_n hx hb d hz (hl.int hq) (same _ e)
      · exact lv_iload hx hb d (hl.int hq) (same _ e)
  case h_3 =>
    split at e
    · rename_i _ x t
      split at e
      · rename_i hlt
        rcases hok with ⟨n, d, hz, rfl⟩ | ⟨d, rfl⟩
        · exact lv_istore_n hx hb d hz hl.1 (by rw [← hl.2]; exact hlt) rfl (fun ls' h' => kk _ _ _ _ _ _ e (hl.set h') hB rf rfl)
        · exact lv_istore hx hb d hl.1 (by rw [← hl.2]; exact hlt) rfl (fun ls' h' => kk _ _ _ _ _ _ e (hl.set h') hB rf rfl)
      · exact (Option.some_ne_none _ e.symm).elim
    · exact (Option.some_ne_none _ e.symm).elim
  case h_4 =>
    cases hq : am_li ls a with
    | none => rw [hq] at e; exact (Option.some_ne_none _ e.symm).elim
    | some x =>
      rw [hq] at e
      obtain ⟨n, d, rfl, rfl⟩ := hok
      have hlt : a < am_mL k := by rw [← hl.2]; exact (List.getElem?_eq_some_iff.mp (am_li_at hq)).1
      obtain ⟨i9, hi9⟩ := List.getElem?_of_mem ((am_ll_mem G ls (a, .int x)).mpr ⟨_, am_li_at hq, rfl⟩)
      exact lv_iinc hx hb d hl.1 hi9 rfl hlt rfl (fun ls' h' => kk _ _ _ _ _ _ e (hl.set h') hB rf rfl)
  case h_5 =>
    split at e
    · rename_i _ y x t
      obtain ⟨d, rfl⟩ := hok
      exact lv_iadd hx hb d (same _ e)
    · exact (Option.some_ne_none _ e.symm).elim
  case h_6 =>
    split at e
    · rename_i _ y x t
      obtain ⟨d, rfl⟩ := hok
      exact lv_isub hx hb d (same _ e)
    · exact (Option.some_ne_none _ e.symm).elim
  case h_7 =>
    split at e
    · rename_i _ y x t
      obtain ⟨d, rfl⟩ := hok
      exact lv_imul hx hb d (same _ e)
    · exact (Option.some_ne_none _ e.symm).elim
  case h_8 =>
    split at e
    · rename_i _ y x t
      obtain ⟨d, rfl⟩ := hok
      exact lv_iand hx hb d (same _ e)
    · exact (Option.some_ne_none _ e.symm).elim
  case h_9 =>
    split at e
    · rename_i _ y x t
      obtain ⟨d, rfl⟩ := hok
      exact lv_ior hx hb d (same _ e)
    · exact (Option.some_ne_none _ e.symm).elim
  case h_10 =>
    split at e
    · rename_i _ y x t
      obtain ⟨d, rfl⟩ := hok
      exact lv_ixor hx hb d (same _ e)
    · exact (Option.some_ne_none _ e.symm).elim
  case h_11 =>
    split at e
    · rename_i _ y x t
      obtain ⟨d, rfl⟩ := hok
      exact lv_ishl hx hb d (same _ e)
    · exact (Option.some_ne_none _ e.symm).elim
  case h_12 =>
    split at e
    · rename_i _ y x t
      obtain ⟨d, rfl⟩ := hok
      exact lv_ishr hx hb d (same _ e)
    · exact (Option.some_ne_none _ e.symm).elim
  case h_13 =>
    split at e
    · rename_i _ y x t
      obtain ⟨d, rfl⟩ := hok
      exact lv_iushr (v := am_ush x y) hx hb d rfl (same _ e)
    · exact (Option.some_ne_none _ e.symm).elim
  case h_14 =>
    split at e
    · rename_i _ y x t
      split at e
      · exact (Option.some_ne_none _ e.symm).elim
      · rename_i hne
        obtain ⟨d, rfl⟩ := hok
        exact lv_idiv hx hb d hne (same _ e)
    · exact (Option.some_ne_none _ e.symm).elim
  case h_15 =>
    split at e
    · rename_i _ y x t
      split at e
      · exact (Option.some_ne_none _ e.symm).elim
      · rename_i hne
        obtain ⟨d, rfl⟩ := hok
        exact lv_irem hx hb d hne (same _ e)
    · exact (Option.some_ne_none _ e.symm).elim
  case h_16 =>
    split at e
    · rename_i _ x t
      obtain ⟨d, rfl⟩ := hok
      exact lv_ineg hx hb d (same _ e)
    · exact (Option.some_ne_none _ e.symm).elim
  case h_17 =>
    split at e
    · rename_i _ x t
      obtain ⟨d, rfl⟩ := hok
      exact lv_i2b hx hb d rfl (same _ e)
    · exact (Option.some_ne_none _ e.symm).elim
  case h_18 =>
    split at e
    · rename_i _ x t
      obtain ⟨d, rfl⟩ := hok
      exact lv_i2l hx hb d rfl (same _ e)
    · exact (Option.some_ne_none _ e.symm).elim
  case h_19 =>
    split at e
    · rename_i _ o t
      split at e
      · rename_i hk
        refine am_w18 hcl hC hB hok hk ?_
        obtain ⟨idx, d, rfl, hbk, hlk⟩ := hok
        obtain ⟨q, hq⟩ : ∃ q, vwCl[am_kd o]? = some q := ⟨_, List.getElem?_eq_getElem (show am_kd o < vwCl.length from am_kk_lt hk hbk)⟩
        have hv : am_fv G h o a = .int (h.2 o a) := by
          unfold am_fv
          rw [(hlk _ q hk hq).2.2]
          rfl
        rw [hv]
        exact same _ e
      · exact (Option.some_ne_none _ e.symm).elim
    · exact (Option.some_ne_none _ e.symm).elim
  case h_20 =>
    split at e
    · rename_i _ o t
      split at e
      · rename_i hk
        refine am_w18 hcl hC hB hok hk ?_
        obtain ⟨idx, d, rfl, hbk, hlk⟩ := hok
        obtain ⟨q, hq⟩ : ∃ q, vwCl[am_kd o]? = some q := ⟨_, List.getElem?_eq_getElem (show am_kd o < vwCl.length from am_kk_lt hk hbk)⟩
        have hv : am_fv G h o a = .ref (G.1 (am_tg o a)) := by
          unfold am_fv
          rw [(hlk _ q hk hq).2.2]
          rfl
        rw [hv]
        exact same _ e
      · exact (Option.some_ne_none _ e.symm).elim
    · exact (Option.some_ne_none _ e.symm).elim
  case h_21 =>
    split at e
    · rename_i _ v o t
      split at e
      · rename_i hk
        have hbk : b < 11 ∨ b = 35 := by obtain ⟨idx, d, -, hbk, -⟩ := hok; exact hbk
        exact am_w20 hcl hC hB rfl rfl hok hk (fun H1 locs1 hB1 => kk _ _ _ _ _ _ e hl hB1 (am_fr_up (am_kk_ne hk hbk)) rfl)
      · exact (Option.some_ne_none _ e.symm).elim
    · exact (Option.some_ne_none _ e.symm).elim
  case h_22 =>
    split at e
    · rename_i _ v o t
      split at e
      · rename_i hk
        split at e
        · rename_i hv
          have hbk : b < 11 ∨ b = 35 := by obtain ⟨idx, d, -, hbk, -⟩ := hok; exact hbk
          exact am_w20 hcl hC hB (am_bit hv).1 (am_bit hv).2.1 hok hk (fun H1 locs1 hB1 => kk _ _ _ _ _ _ e hl hB1 (am_fr_up (am_kk_ne hk hbk)) rfl)
        · exact (Option.some_ne_none _ e.symm).elim
      · exact (Option.some_ne_none _ e.symm).elim
    · exact (Option.some_ne_none _ e.symm).elim
  case h_23 =>
    split at e
    · rename_i _ i o t
      split at e
      · rename_i hk
        split at e
        · rename_i hi
          have ho : o < am_N := am_kd_lt (by omega)
          obtain ⟨d, rfl⟩ := hok
          exact va_iald hx hb hK hB.1 o 0 (by rw [am_ws_at G h ho, am_ce_20 G h hk]) rfl (am_in_vp hi) d (same _ e)
        · exact (Option.some_ne_none _ e.symm).elim
      · exact (Option.some_ne_none _ e.symm).elim
    · exact (Option.some_ne_none _ e.symm).elim
  case h_24 =>
    split at e
    · rename_i _ i o t
      split at e
      · rename_i hk
        split at e
        · rename_i hi
          have ho : o < am_N := am_kd_lt (by omega)
          obtain ⟨d, rfl⟩ := hok
          exact va_bald hx hb hK hB.1 o 1 (by rw [am_ws_at G h ho, am_ce_21 G h hk]) rfl (am_in_vp hi) d (same _ e)
        · exact (Option.some_ne_none _ e.symm).elim
      · exact (Option.some_ne_none _ e.symm).elim
    · exact (Option.some_ne_none _ e.symm).elim
  case h_25 =>
    split at e
    · rename_i _ i o t
      split at e
      · rename_i hk
        split at e
        · rename_i hi
          have ho : o < am_N := am_kd_lt (by omega)
          obtain ⟨d, rfl⟩ := hok
          exact va_zald hx hb hK hB.1 o 2 (by rw [am_ws_at G h ho, am_ce_22 G h hk]) rfl (am_in_vp hi) d (same _ e)
        · exact (Option.some_ne_none _ e.symm).elim
      · exact (Option.some_ne_none _ e.symm).elim
    · exact (Option.some_ne_none _ e.symm).elim
  case h_26 =>
    split at e
    · rename_i _ i o t
      split at e
      · rename_i hk
        split at e
        · rename_i hi
          have ho : o < am_N := am_kd_lt (by omega)
          obtain ⟨d, rfl⟩ := hok
          have ha : (am_ws G h)[o]? = some (G.1 o, .inl (G.2.1 4, am_ln o, .inr (.inr (.inr (.inr (fun i => some (G.1 (o + 1 + i)))))))) := by rw [am_ws_at G h ho, am_ce_24 G h hk]
          have hlt : i.toNatClampNeg < am_ln o := Nat.not_le.mp fun q => am_in_vp hi (Or.inr q)
          exact W.aald (v := .ref (G.1 (o + 1 + i.toNatClampNeg))) (ty := .array .int) hx hb (hB.1 o _ ha) ((hK.2 4 _ rfl).1 (am_ln o) (fun j => va_rf (some (G.1 (o + 1 + j))))) rfl (fun q => by cases q) (by show ¬ (i < 0 ∨ (arrV _ _ _).slots.size ≤ _); rw [arrV_size]; exact am_in_vp hi) (by show (arrV _ _ _).slots[_]? = _; rw [arrV_read _ _ hlt]; rfl) rfl rfl d (same _ e)
        · exact (Option.some_ne_none _ e.symm).elim
      · exact (Option.some_ne_none _ e.symm).elim
    · exact (Option.some_ne_none _ e.symm).elim
  case h_27 =>
    split at e
    · rename_i _ i o t
      split at e
      · rename_i hk
        split at e
        · rename_i hi
          have ho : o < am_N := am_kd_lt (by omega)
          obtain ⟨d, rfl⟩ := hok
          exact va_lald (f := fun i => (h.2 o i).toInt64) hx hb hK hB.1 o 3 (by rw [am_ws_at G h ho, am_ce_23 G h hk]) rfl (am_in_vp hi) d (same _ e)
        · exact (Option.some_ne_none _ e.symm).elim
      · exact (Option.some_ne_none _ e.symm).elim
    · exact (Option.some_ne_none _ e.symm).elim
  case h_28 =>
    split at e
    · rename_i _ v i o t
      split at e
      · rename_i hk
        split at e
        · rename_i hi
          obtain ⟨d, rfl⟩ := hok
          have ho : o < am_N := am_kd_lt (by omega)
          exact va_iast hx hb hK hB.1 hB.2.1 hB.2.2.1 o 0 (by rw [am_ws_at G h ho, am_ce_20 G h hk]) rfl (am_in_vp hi) d (fun H1 locs1 hP hD hS => kk _ _ _ _ _ _ e hl (hB.put ho (am_fr_up (by omega)) (by rw [am_ce_20 G _ hk]; rw [am_up_row]) (fun o' h' => am_up_ne h _ _ h') hP hD hS) (am_fr_up (by omega)) rfl)
        · exact (Option.some_ne_none _ e.symm).elim
      · exact (Option.some_ne_none _ e.symm).elim
    · exact (Option.some_ne_none _ e.symm).elim
  case h_29 =>
    split at e
    · rename_i _ v i o t
      split at e
      · rename_i hk
        split at e
        · rename_i hi
          obtain ⟨d, rfl⟩ := hok
          have ho : o < am_N := am_kd_lt (by omega)
          exact va_bast hx hb hK hB.1 hB.2.1 hB.2.2.1 o 1 (by rw [am_ws_at G h ho, am_ce_21 G h hk]) rfl (am_in_vp hi) d (fun H1 locs1 hP hD hS => kk _ _ _ _ _ _ e hl (hB.put ho (am_fr_up (by omega)) (by rw [am_ce_21 G _ hk]; rw [am_up_row, vp_nar_byte]) (fun o' h' => am_up_ne h _ _ h') hP hD hS) (am_fr_up (by omega)) rfl)
        · exact (Option.some_ne_none _ e.symm).elim
      · exact (Option.some_ne_none _ e.symm).elim
    · exact (Option.some_ne_none _ e.symm).elim
  case h_30 =>
    split at e
    · rename_i _ v i o t
      split at e
      · rename_i hk
        split at e
        · rename_i hi
          split at e
          · rename_i hv
            obtain ⟨d, rfl⟩ := hok
            have ho : o < am_N := am_kd_lt (by omega)
            exact va_zast hx hb hK hB.1 hB.2.1 hB.2.2.1 o 2 (by rw [am_ws_at G h ho, am_ce_22 G h hk]) rfl (am_in_vp hi) d (fun H1 locs1 hP hD hS => kk _ _ _ _ _ _ e hl (hB.put ho (am_fr_up (by omega)) (by rw [am_ce_22 G _ hk]; rw [am_up_row, (am_bit hv).2.2]) (fun o' h' => am_up_ne h _ _ h') hP hD hS) (am_fr_up (by omega)) rfl)
          · exact (Option.some_ne_none _ e.symm).elim
        · exact (Option.some_ne_none _ e.symm).elim
      · exact (Option.some_ne_none _ e.symm).elim
    · exact (Option.some_ne_none _ e.symm).elim
  case h_31 =>
    split at e
    · rename_i _ v i o t
      split at e
      · rename_i hk
        split at e
        · rename_i hi
          split at e
          · rename_i hv
            obtain ⟨d, rfl⟩ := hok
            have ho : o < am_N := am_kd_lt (by omega)
            exact va_last hx hb hK hB.1 hB.2.1 hB.2.2.1 o 3 (by rw [am_ws_at G h ho, am_ce_23 G h hk]) rfl (am_in_vp hi) d (fun H1 locs1 hP hD hS => kk _ _ _ _ _ _ e hl (hB.put ho (am_fr_up (by omega)) (by rw [am_ce_23 G _ hk]; rw [am_up_row]; congr 5; funext j; by_cases hj : j = i.toNatClampNeg <;> simp [vp_updL, upd, hj, hv]) (fun o' h' => am_up_ne h _ _ h') hP hD hS) (am_fr_up (by omega)) rfl)
          · exact (Option.some_ne_none _ e.symm).elim
        · exact (Option.some_ne_none _ e.symm).elim
      · exact (Option.some_ne_none _ e.symm).elim
    · exact (Option.some_ne_none _ e.symm).elim
  case h_32 =>
    split at e
    · rename_i _ o t
      split at e
      · rename_i hk
        obtain ⟨d, rfl⟩ := hok
        have ho : o < am_N := am_kd_lt (by omega)
        rcases hk with hk | hk
        · exact va_alen (x := (am_ln o, .inl (h.2 o))) (v := Int32.ofNat (am_ln o)) hx hb hK hB.1 o 0 (by rw [am_ws_at G h ho, am_ce_20 G h hk]) rfl rfl d (same _ e)
        · exact va_alen (x := (am_ln o, .inr (.inr (.inr (.inr (fun i => some (G.1 (o + 1 + i)))))))) (v := Int32.ofNat (am_ln o)) hx hb hK hB.1 o 4 (by rw [am_ws_at G h ho, am_ce_24 G h hk]) rfl rfl d (same _ e)
      · exact (Option.some_ne_none _ e.symm).elim
    · exact (Option.some_ne_none _ e.symm).elim
  case h_33 =>
    split at e
    · rename_i _ x t
      obtain ⟨d, rfl⟩ := hok
      exact lv_dup hx hb d rfl (same _ e)
    · rename_i _ x t
      obtain ⟨d, rfl⟩ := hok
      exact lv_dup hx hb d rfl (same _ e)
    · exact (Option.some_ne_none _ e.symm).elim
  case h_34 =>
    split at e
    · rename_i _ x y t
      obtain ⟨d, rfl⟩ := hok
      exact lv_dup2_11 hx hb d rfl rfl (same _ e)
    · exact (Option.some_ne_none _ e.symm).elim
  case h_35 =>
    split at e
    · rename_i _ x t
      obtain ⟨d, rfl⟩ := hok
      exact lv_pop hx hb d rfl (same _ e)
    · exact (Option.some_ne_none _ e.symm).elim
  case h_36 =>
    split at e
    · rename_i _ y x t
      obtain ⟨d, rfl⟩ := hok
      exact W.lcmp hx hb d (same _ e)
    · exact (Option.some_ne_none _ e.symm).elim
  case h_37 =>
    obtain ⟨n, ⟨d, rfl⟩, hn⟩ := hok
    have key : ∀ n : Fin 2, Int64.ofNat (n : Nat) = if (n : Nat) = 0 then 0 else 1 := by decide
    exact lv_lconst hx hb d (by rw [← hn]; exact key n) (same _ e)
  case h_38 =>
    split at e
    · rename_i _ n dp dd sp ss t
      split at e
      · rename_i h8
        split at e
        · rename_i hs
          split at e
          · rename_i hd
            split at e
            · rename_i hr
              obtain ⟨h1, h2, h3, h4, h5⟩ := hr
              obtain ⟨idx, d, rfl, hlk⟩ := hok
              have hos : ss < am_N := am_kd_lt (by omega)
              have hod : dd < am_N := am_kd_lt (by omega)
              obtain ⟨-, -, -, -, -, -, -, j1, j2, j3⟩ := hJ
              exact va_copyi hx hb hsz hown (hts _ hlk) (hts _ j1) (hts _ j2) (hts _ j3) hK hB.1 hB.2.1 hB.2.2.1 ss dd 0 0 (by rw [am_ws_at G h hos, am_ce_20 G h hs]) (by rw [am_ws_at G h hod, am_ce_20 G h hd]) (ty := .int) rfl rfl rfl h1 h2 h3 h4 h5 (fun i _ => rfl) (by have := hC.2.2.2.2.2.2.2.2.2.1; omega) (by rw [am_cs_map]; have := hC.2.2.2.2.2.2.2.2.2.2; have e9 : nativeFrameWords "java/lang/System" "arraycopy" 5 = 7 := (by decide +kernel); omega) d (fun H1 locs1 hP hD hS => kk _ _ _ _ _ _ e hl (hB.put hod (am_fr_cp (by omega)) (by rw [am_ce_20 G _ hd, am_cp_row]) (fun o' h' => am_cp_ne h _ _ _ h') hP hD hS) (am_fr_cp (by omega)) rfl)
            · exact (Option.some_ne_none _ e.symm).elim
          · exact (Option.some_ne_none _ e.symm).elim
        · exact (Option.some_ne_none _ e.symm).elim
      · exact (Option.some_ne_none _ e.symm).elim
    · exact (Option.some_ne_none _ e.symm).elim
  case h_39 =>
    obtain ⟨idx, d, rfl, ha, hs1, hs2⟩ := hok
    have hT := (hC.2.2.2.2.2.1.2.2.1 a ha).1
    rw [hs1, hs2] at hT
    exact va_ldcS hx hb hown hT d (same _ e)
  case h_40 =>
    split at e
    · rename_i _ o t
      split at e
      · rename_i h8
        split at e
        · rename_i hk
          obtain ⟨idx, d, rfl, hlk⟩ := hok
          obtain ⟨k1, k2⟩ : 1000 ≤ o ∧ o < 1046 := by unfold am_sk am_sN at hk; simpa using hk
          obtain ⟨j, rfl⟩ := Nat.le.dest k1
          have hj : j < 46 := Nat.lt_of_add_lt_add_left (show 1000 + j < 1000 + 46 from k2)
          have hs : am_sx (1000 + j) = am_str j := by unfold am_sx; rw [Nat.add_sub_cancel_left]
          rw [hs] at e
          exact hSL k G p l en R s m args below meth c H locs cells slots Q rls (t.map (am_v G)) pc idx j hC hB.2.2.1 hl.1.1 (by rw [am_cs_map]; exact h8) hcR hsR hj d hlk (fun H1 locs1 eH hS => by subst eH; exact kk _ _ _ _ _ _ e hl ⟨hB.1, hB.2.1, hS, hB.2.2.2⟩ rf rfl)
        · exact (Option.some_ne_none _ e.symm).elim
      · exact (Option.some_ne_none _ e.symm).elim
    · exact (Option.some_ne_none _ e.symm).elim
  case h_41 =>
    split at e
    · rename_i _ x o t
      split at e
      · rename_i h8
        split at e
        · rename_i hk
          split at e
          · rename_i hi
            obtain ⟨idx, d, rfl, hlk⟩ := hok
            obtain ⟨k1, k2⟩ : 1000 ≤ o ∧ o < 1046 := by unfold am_sk am_sN at hk; simpa using hk
            obtain ⟨j, rfl⟩ := Nat.le.dest k1
            have hj : j < 46 := Nat.lt_of_add_lt_add_left (show 1000 + j < 1000 + 46 from k2)
            have hs : am_sx (1000 + j) = am_str j := by unfold am_sx; rw [Nat.add_sub_cancel_left]
            rw [hs] at e hi
            exact hSC k G p l en R s m args below meth c H locs cells slots Q rls (t.map (am_v G)) pc idx j x hC hB.2.2.1 hl.1.1 (by rw [am_cs_map]; exact h8) hcR hsR hj hi d hlk (fun H1 locs1 eH hS => by subst eH; exact kk _ _ _ _ _ _ e hl ⟨hB.1, hB.2.1, hS, hB.2.2.2⟩ rf rfl)
          · exact (Option.some_ne_none _ e.symm).elim
        · exact (Option.some_ne_none _ e.symm).elim
      · exact (Option.some_ne_none _ e.symm).elim
    · exact (Option.some_ne_none _ e.symm).elim
  case h_42 =>
    split at e
    · rename_i _ y x t
      split at e
      · rename_i h8
        obtain ⟨idx, d, rfl, hlk⟩ := hok
        obtain ⟨j1, j2, j3, j4, j5, j6, j7, -⟩ := hJ
        exact va_mmin hx hb hsz hown (hts _ hlk) (hts _ j1) (hts _ j4) (hts _ j5) (by have := hC.2.2.2.2.2.2.2.2.2.1; omega) (by rw [am_cs_map]; have := hC.2.2.2.2.2.2.2.2.2.2; omega) hcR hsR d (same _ e)
      · exact (Option.some_ne_none _ e.symm).elim
    · exact (Option.some_ne_none _ e.symm).elim
  case h_43 =>
    split at e
    · rename_i _ y x t
      split at e
      · rename_i h8
        obtain ⟨idx, d, rfl, hlk⟩ := hok
        obtain ⟨j1, j2, j3, j4, j5, j6, j7, -⟩ := hJ
        exact va_mmax hx hb hsz hown (hts _ hlk) (hts _ j2) (hts _ j4) (hts _ j6) (by have := hC.2.2.2.2.2.2.2.2.2.1; omega) (by rw [am_cs_map]; have := hC.2.2.2.2.2.2.2.2.2.2; omega) hcR hsR d (same _ e)
      · exact (Option.some_ne_none _ e.symm).elim
    · exact (Option.some_ne_none _ e.symm).elim
  case h_44 =>
    split at e
    · rename_i _ x t
      split at e
      · rename_i h8
        obtain ⟨idx, d, rfl, hlk⟩ := hok
        obtain ⟨j1, j2, j3, j4, j5, j6, j7, -⟩ := hJ
        exact va_mabs hx hb hsz hown (hts _ hlk) (hts _ j3) (hts _ j4) (hts _ j7) (by have := hC.2.2.2.2.2.2.2.2.2.1; omega) (by rw [am_cs_map]; have := hC.2.2.2.2.2.2.2.2.2.2; omega) hcR hsR d (same _ e)
      · exact (Option.some_ne_none _ e.symm).elim
    · exact (Option.some_ne_none _ e.symm).elim
  case h_45 =>
    split at e
    · rename_i _ i o t
      split at e
      · rename_i hk
        split at e
        · rename_i hi
          subst hk
          obtain ⟨d, rfl⟩ := hok
          obtain ⟨x1, x2, x3, x4⟩ := hB.2.2.2
          exact va_sld hx hb x1 x2 x3 hB.2.2.1 (am_in_vp hi) d (same _ e)
        · exact (Option.some_ne_none _ e.symm).elim
      · exact (Option.some_ne_none _ e.symm).elim
    · exact (Option.some_ne_none _ e.symm).elim
  case h_46 =>
    split at e
    · rename_i _ o t
      split at e
      · rename_i hk
        subst hk
        obtain ⟨d, rfl⟩ := hok
        obtain ⟨x1, x2, x3, x4⟩ := hB.2.2.2
        rw [x4] at e
        exact va_slen hx hb x1 x2 x3 hB.2.2.1 d (same _ e)
      · exact (Option.some_ne_none _ e.symm).elim
    · exact (Option.some_ne_none _ e.symm).elim
  case h_47 =>
    cases hq : am_la ls a with
    | none => rw [hq] at e; exact (Option.some_ne_none _ e.symm).elim
    | some x =>
      rw [hq] at e
      rcases hok with ⟨n, d, hz, rfl⟩ | ⟨d, rfl⟩
      · exact lv_aload_n hx hb d hz (hl.ref hq) (same _ e)
      · exact lv_aload hx hb d (hl.ref hq) (same _ e)
  case h_48 =>
    split at e
    · rename_i _ i o t
      split at e
      · rename_i hk
        split at e
        · rename_i hi
          have ho : o < am_N := am_kd_lt (by omega)
          obtain ⟨d, rfl⟩ := hok
          exact va_aldq (f := fun i => some (G.1 (o + 1 + 22 * i))) hx hb hK hB.1 o 5 (by rw [am_ws_at G h ho, am_ce_25 G h hk]) rfl (am_in_vp hi) d (same _ e)
        · exact (Option.some_ne_none _ e.symm).elim
      · exact (Option.some_ne_none _ e.symm).elim
    · exact (Option.some_ne_none _ e.symm).elim
  case h_49 => exact (Option.some_ne_none _ e.symm).elim

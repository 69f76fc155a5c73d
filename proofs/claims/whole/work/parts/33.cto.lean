/-! a step of a trace is what the machine does -/
def ct_co (kt : Nat → ct_Kt) (op a : Nat) : Nat × Nat := match op with
  | 6 => (1, 30)
  | 7 => (1, 5000)
  | 8 => (1, 12)
  | 9 => (10, 90)
  | 16 => (kt a).2.2.2.2.1
  | _ => (0, 0)
def ct_ka (κ : ct_Kt) : am_Kt := (κ.2.1, κ.2.2.1, [], none)
abbrev ct_ok6 (κ : ct_Kt) (pc np a : Nat) : Prop := ∃ (idx : Nat) (q : vw_C), decode κ.2.1 pc = .ok (.new idx, 3) ∧ np = pc + 3 ∧ vwCl[a]? = some q ∧ q.2.2 ≤ 30 ∧ (∀ j, j < q.2.2 → (parseFieldDescriptor (q.2.1 j).2.2.1).map defaultValue = some (vp_V (ct_df a) j)) ∧ Cond.classLink κ.2.2.1 idx q.1 ∈ am_T ∧ Cond.instantiable q.1 q.2.2 ∈ am_T ∧ Cond.initialized q.1 ∈ am_T
abbrev ct_ok7 (κ : ct_Kt) (pc np a : Nat) : Prop := ∃ atype : ArrayType, decode κ.2.1 pc = .ok (.newarray atype, 2) ∧ np = pc + 2 ∧ (a = 20 ∨ a = 21 ∨ a = 22 ∨ a = 23) ∧ newarray.typeOf atype = ct_ty a ∧ Cond.arrayClass (newarray.typeOf atype) ∈ am_T
abbrev ct_ok8 (κ : ct_Kt) (pc np : Nat) : Prop := ∃ idx : Nat, decode κ.2.1 pc = .ok (.anewarray idx, 3) ∧ np = pc + 3 ∧ Cond.classLink κ.2.2.1 idx "ShutFists$State" ∈ am_T
abbrev ct_ok9 (κ : ct_Kt) (pc np : Nat) : Prop := ∃ idx : Nat, decode κ.2.1 pc = .ok (.multianewarray idx 2, 4) ∧ np = pc + 4 ∧ Cond.classLink κ.2.2.1 idx "[[I" ∈ am_T ∧ Cond.arrayClass .int ∈ am_T
abbrev ct_ok10 (κ : ct_Kt) (pc np a b : Nat) (z : Int32) : Prop := ∃ (idx : Nat) (q : vw_C) (ty : FieldType), decode κ.2.1 pc = .ok (.putfield idx, 3) ∧ np = pc + 3 ∧ vwCl[b]? = some q ∧ a < q.2.2 ∧ Cond.fieldLink κ.2.2.1 idx (q.2.1 a).1 (q.2.1 a).2.1 (q.2.1 a).2.2.1 ∈ am_T ∧ ((q.2.1 a).2.2.2 = false ∨ ((q.2.1 a).2.2.2 = true ∧ κ.1.name = "<init>" ∧ (q.2.1 a).1 = κ.2.2.1)) ∧ parseFieldDescriptor (q.2.1 a).2.2.1 = some ty ∧ ((z = 0 ∧ ∃ t, ty = .array t) ∨ (z = 0 ∧ ∃ t, ty = .object t) ∨ (z = 1 ∧ ty = .int) ∨ (z = 2 ∧ ty = .boolean))
abbrev ct_ok11 (κ : ct_Kt) (pc np a b : Nat) : Prop := ∃ (idx : Nat) (q : vw_C), decode κ.2.1 pc = .ok (.getfield idx, 3) ∧ np = pc + 3 ∧ vwCl[b]? = some q ∧ a < q.2.2 ∧ Cond.fieldLink κ.2.2.1 idx (q.2.1 a).1 (q.2.1 a).2.1 (q.2.1 a).2.2.1 ∈ am_T
abbrev ct_ok15 (κ : ct_Kt) (pc np : Nat) : Prop := ∃ idx : Nat, decode κ.2.1 pc = .ok (.invokespecial idx, 3) ∧ np = pc + 3 ∧ Cond.methodLink κ.2.2.1 idx Lib.objectInit ∈ am_T ∧ Cond.instanceMethod Lib.objectInit ∈ am_T ∧ Cond.code Lib.objectInit ⟨#[0xb1]⟩ 1 none ∈ am_T
abbrev ct_ok16 (kt : Nat → ct_Kt) (κ : ct_Kt) (pc np a b : Nat) : Prop := ∃ idx : Nat, decode κ.2.1 pc = .ok (.invokespecial idx, 3) ∧ np = pc + 3 ∧ ct_cal (kt a) b ∧ ct_lnk κ.2.2.1 idx (kt a).1
abbrev ct_ok17 (κ : ct_Kt) (pc np : Nat) : Prop := ∃ idx : Nat, decode κ.2.1 pc = .ok (.invokestatic idx, 3) ∧ np = pc + 3 ∧ Cond.methodLink κ.2.2.1 idx yX12_thingAt ∈ am_T ∧ Cond.static yX12_thingAt ∈ am_T ∧ Cond.initialized yX12_thingAt.cls ∈ am_T ∧ Cond.code yX12_thingAt cX12_thingAt 2 (some .int) ∈ am_T
abbrev ct_ok18 (κ : ct_Kt) (pc np b : Nat) : Prop := ∃ off : Int, decode κ.2.1 pc = .ok (.if_icmp .ge off, 3) ∧ ((b = 0 ∧ np = pc + 3 ∧ ∃ t : Nat, (pc : Int) + off = (t : Int)) ∨ (b = 1 ∧ (pc : Int) + off = (np : Int)))
abbrev ct_ok19 (κ : ct_Kt) (pc np b : Nat) : Prop := ∃ off : Int, decode κ.2.1 pc = .ok (.if_icmp .gt off, 3) ∧ ((b = 0 ∧ np = pc + 3 ∧ ∃ t : Nat, (pc : Int) + off = (t : Int)) ∨ (b = 1 ∧ (pc : Int) + off = (np : Int)))
abbrev ct_ok20 (κ : ct_Kt) (pc np : Nat) : Prop := ∃ off : Int, decode κ.2.1 pc = .ok (.goto off, 3) ∧ (pc : Int) + off = (np : Int)
abbrev ct_ok21 (κ : ct_Kt) (pc np a : Nat) : Prop := ∃ n : Fin 4, decode κ.2.1 pc = .ok (.astore_n n, 1) ∧ (n : Nat) = a ∧ np = pc + 1
def ct_ok (kt : Nat → ct_Kt) (κ : ct_Kt) (pc op a b : Nat) (z : Int32) (np : Nat) : Prop := match op with
  | 0 => am_ok0 (ct_ka κ) pc np z
  | 1 => am_ok46 (ct_ka κ) pc np a
  | 2 => am_ok1 (ct_ka κ) pc np a
  | 3 => am_ok2 (ct_ka κ) pc np a
  | 4 => am_ok3 (ct_ka κ) pc np a z
  | 5 => am_okd (ct_ka κ) pc np .dup
  | 6 => ct_ok6 κ pc np a
  | 7 => ct_ok7 κ pc np a
  | 8 => ct_ok8 κ pc np
  | 9 => ct_ok9 κ pc np
  | 10 => ct_ok10 κ pc np a b z
  | 11 => ct_ok11 κ pc np a b
  | 12 => am_okd (ct_ka κ) pc np .iastore
  | 13 => am_okd (ct_ka κ) pc np .aastore
  | 14 => am_okd (ct_ka κ) pc np .aaload
  | 15 => ct_ok15 κ pc np
  | 16 => ct_ok16 kt κ pc np a b
  | 17 => ct_ok17 κ pc np
  | 18 => ct_ok18 κ pc np b
  | 19 => ct_ok19 κ pc np b
  | 20 => ct_ok20 κ pc np
  | 21 => ct_ok21 κ pc np a
  | _ => False
theorem ct_setR {G : am_G} {n : Nat} {rls rls' : Array Slot} {ls : List Value} {i o : Nat} (hl : am_L G n rls ls) (h' : lv_has rls' n ((i, Value.ref (G.1 o)) :: (am_ll G ls).filter (fun q => !(q.1 == i) && !(q.1 + 1 == i && q.2.category == 2)))) : am_L G n rls' (ls.set i (.ref o)) := by
  refine ⟨⟨h'.1, h'.2.1, fun q hq => h'.2.2 q ?_⟩, by rw [List.length_set]; exact hl.2⟩
  obtain ⟨v, h1, h2⟩ := (am_ll_mem G _ q).mp hq
  by_cases hi : q.1 = i
  · have hlt : i < ls.length := by
      have := (List.getElem?_eq_some_iff.mp h1).1
      rw [List.length_set] at this
      omega
    rw [hi, List.getElem?_set_self hlt] at h1
    cases h1
    have h3 : Value.ref (G.1 o) = q.2 := Option.some.inj h2
    rw [List.mem_cons]
    exact Or.inl (Prod.ext hi h3.symm)
  · rw [List.getElem?_set_ne (fun z => hi z.symm)] at h1
    refine List.mem_cons_of_mem _ (List.mem_filter.mpr ⟨(am_ll_mem G ls q).mpr ⟨v, h1, h2⟩, ?_⟩)
    simp [hi, am_vo_cat h2]
theorem ct_vo_fit {G : am_G} {v : Value} {z : Int32} {ty : FieldType} (h : ct_vo v z = true) (hty : (z = 0 ∧ ∃ t, ty = .array t) ∨ (z = 0 ∧ ∃ t, ty = .object t) ∨ (z = 1 ∧ ty = .int) ∨ (z = 2 ∧ ty = .boolean)) : narrow ty (am_v G v) = am_v G v ∧ fits ty (am_v G v) = true := by
  unfold ct_vo at h
  split at h
  · simp at h
    rcases hty with ⟨rfl, t, rfl⟩ | ⟨rfl, t, rfl⟩ | ⟨rfl, rfl⟩ | ⟨rfl, rfl⟩
    · exact ⟨rfl, rfl⟩
    · exact ⟨rfl, rfl⟩
    · exact absurd h.1 (by decide)
    · exact absurd h.1 (by decide)
  · simp at h
    rcases hty with ⟨rfl, t, rfl⟩ | ⟨rfl, t, rfl⟩ | ⟨rfl, rfl⟩ | ⟨rfl, rfl⟩
    · rcases h with h | h
      · exact absurd h (by decide)
      · exact absurd h.1 (by decide)
    · rcases h with h | h
      · exact absurd h (by decide)
      · exact absurd h.1 (by decide)
    · exact ⟨rfl, rfl⟩
    · rcases h with h | h
      · exact absurd h (by decide)
      · obtain ⟨-, rfl⟩ := h
        exact ⟨rfl, rfl⟩
  · cases h
set_option maxHeartbeats 8000000 in
theorem ct_row {p : Program} {l : Launch} {en : Env} {R : Room} {s : State} {m : MethodId} {args : Array Value} {below : List Frame} {meth : Method} {c : Code} {H : Heap} {locs : List Loc} {cells slots : Nat} {Q : State → Prop} {G : am_G} {pc np d : Nat} {rls : Array Slot} {w w1 : ct_W} {κ : ct_Kt} {ls st ls1 st1 : List Value} {op a b : Nat} {z : Int32} {kt : Nat → ct_Kt} {Φ : ct_F}
    (hcl : ∀ bb q, vwCl[bb]? = some q → am_cls bb q) (hIH : ∀ k av w w', Φ k av w = some w' → ct_M l G d (kt k) av w w') (hC : ct_Cx κ G p R s m args meth c) (hnm : meth.name = κ.1.name) (hRf : d + 3 ≤ R.frames) (hRl : 40 * d + 100 ≤ R.locals) (hl : am_L G κ.2.2.2.1 rls ls) (hB : ct_B G w s H locs) (hok : ct_ok kt κ pc op a b z np) (e : ct_st Φ op a b z ls st w = some (ls1, st1, w1)) (h8 : am_cs st ≤ 12) (hc : cells + (ct_co kt op a).1 ≤ R.cells) (hs : slots + (ct_co kt op a).2 ≤ R.slots)
    (kk : ∀ (rls1 : Array Slot) (H1 : Heap) (locs1 : List Loc), am_L G κ.2.2.2.1 rls1 ls1 → ct_B G w1 s H1 locs1 → W p l en R s m args below meth c H1 locs1 (cells + (ct_co kt op a).1) (slots + (ct_co kt op a).2) Q (F0 m np rls1 (st1.map (am_v G)))) : W p l en R s m args below meth c H locs cells slots Q (F0 m pc rls (st.map (am_v G))) := by
  have hx := hC.1
  have hb := hC.2.1
  have hml := hC.2.2.1
  have hown := hC.2.2.2.1
  have hts := hC.2.2.2.2.1
  have hK := hC.2.2.2.2.2.1.1
  have hG := hC.2.2.2.2.2.1.2.2.2.2
  have hsz : c.maxLocals = rls.size := hml.trans hl.1.1.symm
  unfold ct_st at e
  split at e
  case h_1 =>
    cases e
    rcases hok with ⟨n, d, hz, rfl⟩ | ⟨n, d, hz, rfl⟩ | ⟨n, d, hz, rfl⟩ | ⟨n, d, hz, rfl⟩ | ⟨n, d, hz, rfl⟩
    · exact lv_iconst hx hb d hz (kk _ _ _ hl hB)
    · exact lv_bipush hx hb d hz (kk _ _ _ hl hB)
    · exact lv_sipush hx hb d hz (kk _ _ _ hl hB)
    · exact lv_ldc hx hb hown (hts _ hz) d (kk _ _ _ hl hB)
    · exact lv_ldcw hx hb hown (hts _ hz) d (kk _ _ _ hl hB)
  case h_2 =>
    cases hq : am_la ls a with
    | none => rw [hq] at e; cases e
    | some x =>
      rw [hq] at e
      cases e
      rcases hok with ⟨n, d, hz, rfl⟩ | ⟨d, rfl⟩
      · exact lv_aload_n hx hb d hz (hl.ref hq) (kk _ _ _ hl hB)
      · exact lv_aload hx hb d (hl.ref hq) (kk _ _ _ hl hB)
  case h_3 =>
    cases hq : am_li ls a with
    | none => rw [hq] at e; cases e
    | some x =>
      rw [hq] at e
      cases e
      rcases hok with ⟨n, d, hz, rfl⟩ | ⟨d, rfl⟩
      · exact lv_iload_n hx hb d hz (hl.int hq) (kk _ _ _ hl hB)
      · exact lv_iload hx hb d (hl.int hq) (kk _ _ _ hl hB)
  case h_4 =>
    split at e
    · split at e
      · rename_i hlt
        cases e
        rcases hok with ⟨n, d, hz, rfl⟩ | ⟨d, rfl⟩
        · exact lv_istore_n hx hb d hz hl.1 (by rw [← hl.2]; exact hlt) rfl (fun ls' h' => kk _ _ _ (hl.set h') hB)
        · exact lv_istore hx hb d hl.1 (by rw [← hl.2]; exact hlt) rfl (fun ls' h' => kk _ _ _ (hl.set h') hB)
      · cases e
    · cases e
  case h_5 =>
    cases hq : am_li ls a with
    | none => rw [hq] at e; cases e
    | some x =>
      rw [hq] at e
      cases e
      obtain ⟨n, d, rfl, rfl⟩ := hok
      have hlt : a < κ.2.2.2.1 := by rw [← hl.2]; exact (List.getElem?_eq_some_iff.mp (am_li_at hq)).1
      obtain ⟨i9, hi9⟩ := List.getElem?_of_mem ((am_ll_mem G ls (a, .int x)).mpr ⟨_, am_li_at hq, rfl⟩)
      exact lv_iinc hx hb d hl.1 hi9 rfl hlt rfl (fun ls' h' => kk _ _ _ (hl.set h') hB)
  case h_6 =>
    split at e
    · cases e
      obtain ⟨d, rfl⟩ := hok
      exact lv_dup hx hb d rfl (kk _ _ _ hl hB)
    · cases e
  case h_7 =>
    split at e
    · rename_i hlt
      cases e
      obtain ⟨idx, q, d, rfl, hq, h30, hdf, h1, h2, h3⟩ := hok
      have hs : slots + 30 ≤ R.slots := hs
      refine ct_new (hcl _ _ hq) hx hb hts hown hK hB hq hdf h1 h2 h3 hc (by omega) d (fun H1 hB1 => ?_)
      rw [← hG _ hlt]
      exact W.widen (Nat.le_refl _) (by show slots + q.2.2 ≤ slots + 30; omega) (kk _ _ _ hl hB1)
    · cases e
  case h_8 =>
    split at e
    · split at e
      · rename_i n r hcnd
        obtain ⟨hn, hN, hlt⟩ := hcnd
        cases e
        obtain ⟨atype, d, rfl, hk, hty, harr⟩ := hok
        have hs : slots + 5000 ≤ R.slots := hs
        refine ct_newa hk hty harr hx hb hts hK hB hn hN hc (by omega) d (fun H1 hB1 => ?_)
        rw [← hG _ hlt]
        exact W.widen (Nat.le_refl _) (by show slots + _ ≤ slots + 5000; omega) (kk _ _ _ hl hB1)
      · cases e
    · cases e
  case h_9 =>
    split at e
    · split at e
      · rename_i n r hcnd
        obtain ⟨hn, hN, hlt⟩ := hcnd
        cases e
        obtain ⟨idx, d, rfl, hlk⟩ := hok
        have hs : slots + 12 ≤ R.slots := hs
        refine ct_newq hx hb hts hown hlk hC.2.2.2.2.2.1.2.2.2.1 hK hB hn hN hc (by omega) d (fun H1 hB1 => ?_)
        rw [← hG _ hlt]
        exact W.widen (Nat.le_refl _) (by show slots + _ ≤ slots + 12; omega) (kk _ _ _ hl hB1)
      · cases e
    · cases e
  case h_10 =>
    split at e
    · split at e
      · rename_i k n r hcnd
        obtain ⟨hn, hk, hN, hM, hlt⟩ := hcnd
        cases e
        obtain ⟨idx, d, rfl, hlk, harr⟩ := hok
        have hs : slots + 90 ≤ R.slots := hs
        have hc : cells + 10 ≤ R.cells := hc
        have hmul : n.toNatClampNeg * k.toNatClampNeg ≤ 81 := Nat.mul_le_mul hN hM
        refine ct_mna hx hb hts hown hlk harr hC.2.2.2.2.2.1.2.2.1 hK hG hB hn hk hN hM hlt (by omega) (by omega) d (fun H1 hB1 => ?_)
        rw [← hG _ (by omega)]
        exact W.widen (by show cells + 1 + _ ≤ cells + 10; omega) (by show slots + _ + _ ≤ slots + 90; omega) (kk _ _ _ hl hB1)
      · cases e
    · cases e
  case h_11 =>
    split at e
    · split at e
      · split at e
        · rename_i v o r x9 b' fs hw hcnd
          obtain ⟨rfl, hlf, ho, hvo⟩ := hcnd
          cases e
          obtain ⟨idx, q, ty, d, rfl, hq, ha, hlk, hfin, hp, hty⟩ := hok
          obtain ⟨hn, hfit⟩ := ct_vo_fit (G := G) hvo hty
          show W p l en R s m args below meth c H locs cells slots Q (F0 m pc rls (am_v G v :: .ref (G.1 o) :: st1.map (am_v G)))
          rw [hG _ ho]
          exact ct_put (hcl _ _ hq) hx hb hts hown hK hB hw hq ha hlf hlk (by rw [hnm]; exact hfin) hp hn hfit d (fun H1 locs1 hB1 => kk _ _ _ hl hB1)
        · cases e
      · cases e
    · cases e
  case h_12 =>
    split at e
    · split at e
      · split at e
        · rename_i o r x9 b' fs hw hcnd
          obtain ⟨rfl, ho⟩ := hcnd
          split at e
          · rename_i x8 v hv
            cases e
            obtain ⟨idx, q, d, rfl, hq, ha, hlk⟩ := hok
            show W p l en R s m args below meth c H locs cells slots Q (F0 m pc rls (.ref (G.1 o) :: r.map (am_v G)))
            rw [hG _ ho]
            exact va_get (C := q.1) (T := q.2.1) (N := q.2.2) hx hb hts (hcl _ _ hq).1 hown hK hB.1 o (ct_ws_at G hw) hq a ha (hts _ hlk) (fun _ h9 => h9) (v := am_v G v) (by show (fs.map (am_v G))[a]? = _; rw [List.getElem?_map, hv]; rfl) d (kk _ _ _ hl hB)
          · cases e
        · cases e
      · cases e
    · cases e
  case h_13 =>
    split at e
    · split at e
      · split at e
        · rename_i x i o r x9 n us hw hcnd
          obtain ⟨hin, ho⟩ := hcnd
          cases e
          obtain ⟨d, rfl⟩ := hok
          show W p l en R s m args below meth c H locs cells slots Q (F0 m pc rls (.int x :: .int i :: .ref (G.1 o) :: st1.map (am_v G)))
          rw [hG _ ho]
          exact ct_iast hx hb hK hB hw (am_in_vp hin) d (fun H1 locs1 hB1 => kk _ _ _ hl hB1)
        · cases e
      · cases e
    · cases e
  case h_14 =>
    split at e
    · split at e
      · split at e
        · split at e
          · rename_i v i o r x9 n us hw x8 fs hv hcnd
            obtain ⟨hin, ho, hv9⟩ := hcnd
            cases e
            obtain ⟨d, rfl⟩ := hok
            show W p l en R s m args below meth c H locs cells slots Q (F0 m pc rls (.ref (G.1 v) :: .int i :: .ref (G.1 o) :: st1.map (am_v G)))
            rw [hG _ ho, hG _ hv9]
            exact ct_aast hx hb hK hB hw hv (hG _ hv9) (am_in_vp hin) d (fun H1 locs1 hB1 => kk _ _ _ hl hB1)
          · cases e
        · cases e
      · cases e
    · cases e
  case h_15 =>
    split at e
    · split at e
      · split at e
        · split at e
          · rename_i i o r x9 n us hw x8 q hq hcnd
            obtain ⟨hin, ho⟩ := hcnd
            cases e
            obtain ⟨d, rfl⟩ := hok
            have hlt := (am_in_vp hin)
            have hlt2 : i.toNatClampNeg < n := Nat.not_le.mp fun q => hlt (Or.inr q)
            show W p l en R s m args below meth c H locs cells slots Q (F0 m pc rls (.int i :: .ref (G.1 o) :: r.map (am_v G)))
            rw [hG _ ho]
            have hv : va_rf (ct_lR G us i.toNatClampNeg) = .ref (G.1 q) := by
              unfold ct_lR
              rw [hq]
              rfl
            exact W.aald (v := .ref (G.1 q)) (ty := .array .int) hx hb (hB.1 o _ (ct_ws_at G hw)) ((hK.2 4 _ rfl).1 n (fun j => va_rf (ct_lR G us j))) rfl (fun q => by cases q) (by show ¬ (i < 0 ∨ (arrV _ _ _).slots.size ≤ _); rw [arrV_size]; exact hlt) (by show (arrV _ _ _).slots[_]? = _; rw [arrV_read _ _ hlt2, hv]) rfl rfl d (kk _ _ _ hl hB)
          · cases e
        · cases e
      · cases e
    · cases e
  case h_16 =>
    split at e
    · rename_i o r
      cases e
      obtain ⟨idx, d, rfl, h1, h2, h3⟩ := hok
      have h9 : am_cs (.ref o :: st1) ≤ 12 := h8
      have h10 : am_cs st1 ≤ 12 := by
        have : am_cs (.ref o :: st1) = 1 + am_cs st1 := rfl
        omega
      refine W.objInit hx hb hown (hts _ h1) (hts _ h2) (hts _ h3) rfl (by rw [hsz]) rfl d (by omega) ?_ (kk _ _ _ hl hB)
      show 2 * 0 + ((st1.map (am_v G)).map fun v => v.category).sum + 12 ≤ R.locals
      rw [am_cs_map]
      omega
    · cases e
  case h_17 =>
    split at e
    · rename_i o r
      obtain ⟨idx, d, rfl, hcal, hlk⟩ := hok
      split at e
      · rename_i hcnd
        obtain ⟨rfl, hr8⟩ := hcnd
        cases hq : Φ a [.ref o] w with
        | none => rw [hq] at e; cases e
        | some w2 =>
          rw [hq] at e
          cases e
          exact ct_init (Bs := []) hC hcal hlk (hIH _ _ _ _ hq) hRf hRl hl.1.1 hB rfl hr8 hc hs d (fun H1 locs1 hB1 => kk _ _ _ hl hB1)
      · split at e
        · rename_i o2 r2 _
          split at e
          · rename_i hcnd
            obtain ⟨rfl, hr8⟩ := hcnd
            cases hq : Φ a [.ref o2, .ref o] w with
            | none => rw [hq] at e; cases e
            | some w2 =>
              rw [hq] at e
              cases e
              exact ct_init (Bs := [.ref o]) hC hcal hlk (hIH _ _ _ _ hq) hRf hRl hl.1.1 hB rfl hr8 hc hs d (fun H1 locs1 hB1 => kk _ _ _ hl hB1)
          · cases e
        · cases e
    · cases e
  case h_18 =>
    split at e
    · rename_i y x r
      split at e
      · rename_i hr8
        cases e
        obtain ⟨idx, d, rfl, h1, h2, h3, h4⟩ := hok
        have hT : GoodIn am_T (va_wsS κ.2.2.1 idx yX12_thingAt (am_wj yX12_thingAt cX12_thingAt 2 (some .int))) := am_goodIn (fun w hw => by
          simp only [va_wsS, List.cons_append, List.nil_append, List.mem_cons] at hw
          rcases hw with e | e | e | e
          · rw [e]; exact h1
          · rw [e]; exact h2
          · rw [e]; exact h3
          · exact am_wj_in h4 w e)
        exact am_callQ (va_runS (As := [.int x, .int y]) (Ts := am_T) (own := κ.2.2.1) (nL := κ.2.2.2.1) (cc := κ.2.1) ⟨hx, hb, hml, hown, hts⟩ (ct_thing l x y) (va_cwS 2 hts hT rfl rfl rfl (by decide +kernel) ⟨by show 0 + 1 ≤ _; omega, by show 8 + (2 + 11) + 0 ≤ _; omega⟩) ⟨fun _ _ _ _ q => q, fun U hU hW => rfl⟩ rfl rfl hl.1.1 rfl (lv_room (by rw [am_cs_map]; exact hr8)) d ⟨hc, hs⟩) (kk _ _ _ hl hB)
      · cases e
    · cases e
  case h_19 =>
    split at e
    · rename_i y x r
      split at e
      · rename_i hcnd
        cases e
        obtain ⟨off, d, hj⟩ := hok
        rcases hj with ⟨rfl, rfl, t, ht⟩ | ⟨rfl, ht⟩
        · rcases hcnd with ⟨h, -⟩ | ⟨-, hcnd⟩
          · cases h
          · exact lv_icmp_ge hx hb d ht (fun q => absurd q hcnd) (fun _ => kk _ _ _ hl hB)
        · rcases hcnd with ⟨-, hcnd⟩ | ⟨h, -⟩
          · exact lv_icmp_ge hx hb d ht (fun _ => kk _ _ _ hl hB) (fun q => absurd hcnd q)
          · cases h
      · cases e
    · cases e
  case h_20 =>
    split at e
    · rename_i y x r
      split at e
      · rename_i hcnd
        cases e
        obtain ⟨off, d, hj⟩ := hok
        rcases hj with ⟨rfl, rfl, t, ht⟩ | ⟨rfl, ht⟩
        · rcases hcnd with ⟨h, -⟩ | ⟨-, hcnd⟩
          · cases h
          · exact lv_icmp_gt hx hb d ht (fun q => absurd q hcnd) (fun _ => kk _ _ _ hl hB)
        · rcases hcnd with ⟨-, hcnd⟩ | ⟨h, -⟩
          · exact lv_icmp_gt hx hb d ht (fun _ => kk _ _ _ hl hB) (fun q => absurd hcnd q)
          · cases h
      · cases e
    · cases e
  case h_21 =>
    cases e
    obtain ⟨off, d, ht⟩ := hok
    exact lv_goto hx hb d ht (kk _ _ _ hl hB)
  case h_22 =>
    split at e
    · split at e
      · rename_i hlt
        cases e
        obtain ⟨n, d, hz, rfl⟩ := hok
        exact lv_astore_n hx hb d hz hl.1 (by rw [← hl.2]; exact hlt) rfl (fun ls' h' => kk _ _ _ (ct_setR hl h') hB)
      · cases e
    · cases e
  case h_23 => cases e

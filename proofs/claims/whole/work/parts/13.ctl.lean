/-! WHAT A STEP THAT BRANCHES, CALLS, RETURNS OR THROWS ASKS OF ITS PLACE -/
def am_hd (l : List am_I) : Nat := match l with
  | [] => 0
  | i :: _ => i.1
/-- where block b begins -/
def am_px (bl : List (List am_I)) (b : Nat) : Nat := am_hd (bl.getD b [])
noncomputable def am_pc (k b : Nat) : Nat := am_px (am_bl k) b
abbrev am_okI (κ : am_Kt) (pc a b : Nat) (cd : Int → Instr) : Prop := ∃ off, decode κ.1 pc = .ok (cd off, 3) ∧ (pc : Int) + off = (am_px κ.2.2.1 a : Int) ∧ am_px κ.2.2.1 b = pc + 3
/-- the rows of a switch: its numbers go on by 1 from lo -/
def am_swT (κ : am_Kt) (pc : Nat) (lo : Int) : List (Int32 × Nat) → List Int → Prop
  | [], [] => True
  | (v, t) :: r, o :: os => v.toInt = lo ∧ (pc : Int) + o = (am_px κ.2.2.1 t : Int) ∧ am_swT κ pc (lo + 1) r os
  | _, _ => False
def am_swL2 (κ : am_Kt) (pc : Nat) : List (Int32 × Nat) → List (Int × Int) → Prop
  | [], [] => True
  | (v, t) :: r, (x, o) :: os => v.toInt = x ∧ (pc : Int) + o = (am_px κ.2.2.1 t : Int) ∧ am_swL2 κ pc r os
  | _, _ => False
abbrev am_ok73 (κ : am_Kt) (pc a b : Nat) : Prop := (∃ (dflt lo hi : Int) (offs : Array Int) (len : Nat), decode κ.1 pc = .ok (.tableswitch dflt lo hi offs, len) ∧ (pc : Int) + dflt = (am_px κ.2.2.1 b : Int) ∧ hi = lo + offs.toList.length - 1 ∧ am_swT κ pc lo (am_swt a) offs.toList) ∨ (∃ (dflt : Int) (ps : Array (Int × Int)) (len : Nat), decode κ.1 pc = .ok (.lookupswitch dflt ps, len) ∧ (ps.toList.zip (ps.toList.drop 1)).all (fun (a, next) => a.1 < next.1) = true ∧ (pc : Int) + dflt = (am_px κ.2.2.1 b : Int) ∧ am_swL2 κ pc (am_swt a) ps.toList)
def am_okR (κ : am_Kt) (pc : Nat) (v : Option Int32) : Prop := match v with
  | some x => decode κ.1 pc = .ok (.ireturn, 1) ∧ (κ.2.2.2 = some .int ∨ (κ.2.2.2 = some .boolean ∧ (x = 0 ∨ x = 1)))
  | none => decode κ.1 pc = .ok (.return_, 1) ∧ κ.2.2.2 = none
abbrev am_sup : List String := ["java/lang/RuntimeException", "java/lang/Exception"]
/-- 'throw new E("text")' -/
abbrev am_okT (κ : am_Kt) (pc a : Nat) : Prop := ∃ ik is ic si : Nat, Bundle.fit (am_E a) = true ∧ (∀ n ∈ am_sup, Bundle.fit n = true) ∧ Cond.classLink κ.2.1 ik (am_E a) ∈ am_T ∧ Cond.initialized (am_E a) ∈ am_T ∧ si < am_sN ∧ am_sow si = κ.2.1 ∧ am_six si = is ∧ ((∀ w ∈ vx_atS κ.2.1 ic (am_E a) am_sup, w ∈ am_T ∨ w ∈ am_NW) ∨ ∃ (ix : Nat) (rx : ByteArray), am_rx6 rx ix ∧ ∀ w ∈ (am_atm κ.2.1 ic (am_E a) ix rx "java/lang/RuntimeException" ["java/lang/Exception"]).filter vx_no, w ∈ am_T ∨ w ∈ am_NW) ∧ decode κ.1 pc = .ok (.new ik, 3) ∧ decode κ.1 (pc + 3) = .ok (.dup, 1) ∧
  ((decode κ.1 (pc + 4) = .ok (.ldc is, 2) ∧ decode κ.1 (pc + 6) = .ok (.invokespecial ic, 3) ∧ decode κ.1 (pc + 9) = .ok (.athrow, 1)) ∨ (decode κ.1 (pc + 4) = .ok (.ldc_w is, 3) ∧ decode κ.1 (pc + 7) = .ok (.invokespecial ic, 3) ∧ decode κ.1 (pc + 10) = .ok (.athrow, 1)))
/-- a handler that answers v: astore, iconst, ireturn -/
abbrev am_okH1 (κ : am_Kt) (k hp : Nat) (v : Int32) : Prop := ∃ (sl p1 : Nat) (n : Int), ((∃ f : Fin 4, decode κ.1 hp = .ok (.astore_n f, 1) ∧ (f : Nat) = sl ∧ p1 = hp + 1) ∨ (decode κ.1 hp = .ok (.astore sl, 2) ∧ p1 = hp + 2)) ∧ sl < am_mL k ∧ decode κ.1 p1 = .ok (.iconst n, 1) ∧ Int32.ofInt n = v ∧ decode κ.1 (p1 + 1) = .ok (.ireturn, 1) ∧ κ.2.2.2 = some .int
def am_okH (κ : am_Kt) (k pc z : Nat) : Prop := ∀ (x : Nat) (v : Int32), am_cf (am_ctt z) x = some v → ∃ (pre : List ExceptionTableEntry) (q : ExceptionTableEntry) (suf : List ExceptionTableEntry) (name : String), tableOf (am_hh k) = pre ++ q :: suf ∧ (∀ y ∈ pre, covers y pc = false ∨ (y.catchType ≠ 0 ∧ ∃ nm : String, Cond.classLink κ.2.1 y.catchType nm ∈ am_T ∧ (am_E x, nm) ∈ am_NC)) ∧ covers q pc = true ∧ q.catchType ≠ 0 ∧ Cond.classLink κ.2.1 q.catchType name ∈ am_T ∧ Cond.castable (am_E x) name ∈ am_NW ∧ am_okH1 κ k q.handlerPc v
/-- not the law, and without handlers -/
def am_nl (j : Nat) : Prop := am_hh j = [] ∧ j ≠ qW_law_
def am_okc (κ : am_Kt) (k pc op a b : Nat) (z : Int32) (np : Nat) : Prop := match op with
  | 50 => am_okI κ pc a b (.ifCond .eq)
  | 51 => am_okI κ pc a b (.ifCond .ne)
  | 52 => am_okI κ pc a b (.ifCond .lt)
  | 53 => am_okI κ pc a b (.ifCond .ge)
  | 54 => am_okI κ pc a b (.ifCond .gt)
  | 55 => am_okI κ pc a b (.ifCond .le)
  | 56 => am_okI κ pc a b (.if_icmp .eq)
  | 57 => am_okI κ pc a b (.if_icmp .ne)
  | 58 => am_okI κ pc a b (.if_icmp .lt)
  | 59 => am_okI κ pc a b (.if_icmp .ge)
  | 60 => am_okI κ pc a b (.if_icmp .gt)
  | 61 => am_okI κ pc a b (.if_icmp .le)
  | 64 => (am_okS κ pc np a b ∧ am_nl a) ∨ (am_okSW κ pc np a b ∧ k = qW_law_ ∧ a ≠ qW_law_)
  | 65 => am_okS κ pc np a b ∧ am_nl a
  | 66 => am_okV κ pc np a b z.toNatClampNeg ∧ am_nl a
  | 67 => am_okV κ pc np a b z.toNatClampNeg ∧ am_nl a
  | 68 => ∀ zz, am_kk zz z.toNatClampNeg = true → am_okU κ pc np a b zz ∧ am_nl a
  | 69 => ∀ zz, am_kk zz z.toNatClampNeg = true → am_okU κ pc np a b zz ∧ am_nl a
  | 70 => am_okA κ pc np a 0 5 ∧ am_okA κ pc np b 0 3 ∧ am_nl a ∧ am_nl b
  | 71 => ∃ off, decode κ.1 pc = .ok (.goto off, 3) ∧ (pc : Int) + off = (am_px κ.2.2.1 a : Int)
  | 72 => am_px κ.2.2.1 a = pc
  | 73 => am_ok73 κ pc a b
  | 74 => decode κ.1 pc = .ok (.ireturn, 1) ∧ κ.2.2.2 = some .int
  | 75 => decode κ.1 pc = .ok (.ireturn, 1) ∧ κ.2.2.2 = some .boolean
  | 76 => decode κ.1 pc = .ok (.return_, 1) ∧ κ.2.2.2 = none
  | 77 => am_okT κ pc a
  | 78 => am_okV κ pc np a b 9 ∧ am_nl a ∧ am_okH κ k pc z.toNatClampNeg
  | 79 => am_okN κ pc np a b ∧ am_nl a
  | _ => False
def am_okL (κ : am_Kt) (k : Nat) : List am_I → Prop
  | [] => True
  | (pc, op, a, b, z) :: r => (if op < 50 then am_ok κ pc op a b z (am_hd r) else am_okc κ k pc op a b z (am_hd r)) ∧ am_okL κ k r
/-- all blocks of a method -/
def am_okM (k : Nat) : Prop := ∀ q ∈ am_bl k, am_okL (am_kt k) k q
theorem am_okM_at {k : Nat} (h : am_okM k) (b : Nat) : am_okL (am_kt k) k ((am_bl k).getD b []) := by
  rw [List.getD_eq_getElem?_getD]
  cases hb : (am_bl k)[b]? with
  | none => exact trivial
  | some q => exact h q (List.mem_of_getElem? hb)
theorem am_pc_eq (k b : Nat) : am_pc k b = am_hd ((am_bl k).getD b []) := rfl
/-- where a switch goes -/
theorem am_swT_go {k pc : Nat} : ∀ (t : List (Int32 × Nat)) (os : List Int) (lo : Int) (d : Nat) (x : Int32), am_swT (am_kt k) pc lo t os → (¬ (x.toInt < lo ∨ lo + os.length ≤ x.toInt) → ∃ off, os[(x.toInt - lo).toNat]? = some off ∧ (pc : Int) + off = (am_pc k (am_sf t d x) : Int)) ∧ ((x.toInt < lo ∨ lo + os.length ≤ x.toInt) → am_sf t d x = d) := by
  intro t
  induction t with
  | nil =>
    intro os lo d x h
    cases os with
    | nil => exact ⟨fun q => absurd (by simp; omega) q, fun _ => rfl⟩
    | cons o os => exact h.elim
  | cons q t ih =>
    obtain ⟨v, b⟩ := q
    intro os lo d x h
    cases os with
    | nil => exact h.elim
    | cons o os =>
      obtain ⟨h1, h2, h3⟩ := h
      obtain ⟨i1, i2⟩ := ih os (lo + 1) d x h3
      unfold am_sf
      by_cases hx : x = v
      · subst hx
        rw [if_pos rfl]
        refine ⟨fun _ => ⟨o, by rw [h1, Int.sub_self]; rfl, h2⟩, fun q => ?_⟩
        simp only [List.length_cons] at q
        omega
      · have hne : x.toInt ≠ lo := fun q => hx (Int32.toInt_inj.mp (by rw [h1]; exact q))
        rw [if_neg hx]
        simp only [List.length_cons]
        refine ⟨fun q => ?_, fun q => i2 (by omega)⟩
        obtain ⟨off, a1, a2⟩ := i1 (by omega)
        refine ⟨off, ?_, a2⟩
        have e : (x.toInt - lo).toNat = (x.toInt - (lo + 1)).toNat + 1 := by omega
        rw [e, List.getElem?_cons_succ]
        exact a1
theorem am_swL_go {k pc : Nat} {dflt : Int} {d : Nat} (hd : (pc : Int) + dflt = (am_pc k d : Int)) (x : Int32) : ∀ (t : List (Int32 × Nat)) (os : List (Int × Int)), am_swL2 (am_kt k) pc t os → (pc : Int) + Op.lookupswitch.offset os dflt x.toInt = (am_pc k (am_sf t d x) : Int) := by
  intro t
  induction t with
  | nil =>
    intro os h
    cases os with
    | nil => exact hd
    | cons o os => exact h.elim
  | cons q t ih =>
    obtain ⟨v, b⟩ := q
    intro os h
    cases os with
    | nil => exact h.elim
    | cons o os =>
      obtain ⟨y, o⟩ := o
      obtain ⟨h1, h2, h3⟩ := h
      unfold am_sf
      rw [Op.lookupswitch.offset_cons]
      by_cases hx : x = v
      · subst hx
        rw [if_pos rfl, if_pos h1.symm]
        exact h2
      · have hne : ¬ y = x.toInt := fun q => hx (Int32.toInt_inj.mp (by rw [h1]; exact q.symm))
        rw [if_neg hx, if_neg hne]
        exact ih os h3
section AMD
variable {p : Program} {l : Launch} {en : Env} {R : Room} {s : State} {m : MethodId} {args : Array Value} {below : List Frame} {meth : Method} {c : Code} {H : Heap} {locs : List Loc} {cells slots : Nat} {Q : State → Prop} {G : am_G} {k pc : Nat} {rls : Array Slot} {st : List Value}
theorem am_sw73 (hx : p.tables.exec = Jvm.exec) (hb : c.code = am_cc k) {a b : Nat} {x : Int32} (hok : am_ok73 (am_kt k) pc a b) (kk : W p l en R s m args below meth c H locs cells slots Q (F0 m (am_pc k (am_sf (am_swt a) b x)) rls st)) : W p l en R s m args below meth c H locs cells slots Q (F0 m pc rls (.int x :: st)) := by
  rcases hok with ⟨dflt, lo, hi, offs, len, d, h1, h2, h3⟩ | ⟨dflt, ps, len, d, h0, h1, h3⟩
  · obtain ⟨g1, g2⟩ := am_swT_go (am_swt a) offs.toList lo b x h3
    by_cases hr : x.toInt < lo ∨ lo + offs.toList.length ≤ x.toInt
    · rw [g2 hr] at kk
      exact lv_tableOut hx hb d (by omega) h1 kk
    · obtain ⟨off, a1, a2⟩ := g1 hr
      exact lv_tableIn hx hb d (by omega) (by omega) (by rw [← Array.getElem?_toList]; exact a1) a2 kk
  · exact lv_lookup hx hb d h0 rfl (am_swL_go h1 x (am_swt a) ps.toList h3) kk
end AMD

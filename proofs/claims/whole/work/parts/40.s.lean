/-! iinc, by itself -/
theorem am_st_3 {a b : Nat} {z : Int32} {ls st : List Value} {h : am_H} {K : List Value → List Value → am_H → Option am_R} : am_st 3 a b z ls st h K = (match am_li ls a with | some x => K (ls.set a (.int (x + z))) st h | none => none) := rfl
theorem am_ex_iinc {Φ : am_F} {J : am_J} {pc a b : Nat} {z x : Int32} {r : List am_I} {ls st : List Value} {h : am_H} (hx : am_li ls a = some x) : am_ex Φ J ((pc, 3, a, b, z) :: r) ls st h = am_ex Φ J r (ls.set a (.int (x + z))) st h := by
  have e : am_ex Φ J ((pc, 3, a, b, z) :: r) ls st h = am_st 3 a b z ls st h (fun ls st h => am_ex Φ J r ls st h) := rfl
  rw [e, am_st_3, hx]

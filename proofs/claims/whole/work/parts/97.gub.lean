theorem i_msb {y : Int32} (h : y.toBitVec.getLsbD 31 = false) : 0 ≤ y.toInt := by
  have h1 : y.toBitVec.msb = false := by rw [BitVec.msb_eq_getLsbD_last]; exact h
  show 0 ≤ y.toBitVec.toInt
  rw [BitVec.toInt_eq_msb_cond, h1]
  simp
theorem up_b0 {X : pX} {ρ : sR} : 0 ≤ (sd X ρ (.op2 .iand (.op1 .l2i (.op2 .lushr (.arg 5121) (.int 8))) (.int 255))).1.toInt := by
  generalize hx : (sd X ρ (.op1 .l2i (.op2 .lushr (.arg 5121) (.int 8)))).1 = x
  have e : (sd X ρ (.op2 .iand (.op1 .l2i (.op2 .lushr (.arg 5121) (.int 8))) (.int 255))).1 = x &&& 255 := by rw [← hx]; rfl
  rw [e]
  have h : (x &&& 255).toBitVec.getLsbD 31 = false := by
    rw [Int32.toBitVec_and, BitVec.getLsbD_and]
    show (_ && false) = false
    rw [Bool.and_false]
  exact i_msb h

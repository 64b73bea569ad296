set_option maxRecDepth 20000
/-! ===== what came in is taken ===== -/
theorem tk_1_0 : tbv [] (.op2 .lor (.op2 .lor (.op2 .lshl (.op1 .i2l (.op1 .l2i (.op2 .land (.op2 .lshr (.arg 60001) (.int 0)) (.long 255)))) (.int 0)) (.long 0)) (.op2 .lshl (.op1 .i2l (.op1 .l2i (.op2 .land (.op2 .lshr (.arg 60001) (.int 8)) (.long 255)))) (.int 8))) (.op2 .land (.op2 .lushr (.arg 60001) (.int 0)) (.long 65535)) = true := by decide +kernel
theorem tk_1_1 : tbv [] (.op2 .lor (.op2 .lor (.op2 .lshl (.op1 .i2l (.op1 .l2i (.op2 .land (.op2 .lshr (.arg 60001) (.int 8)) (.long 255)))) (.int 0)) (.long 0)) (.op2 .lshl (.op1 .i2l (.op1 .l2i (.op2 .land (.op2 .lshr (.arg 60001) (.int 16)) (.long 255)))) (.int 8))) (.op2 .land (.op2 .lushr (.arg 60001) (.int 8)) (.long 65535)) = true := by decide +kernel
theorem tk_1_2 : tbv [] (.op2 .lor (.op2 .lor (.op2 .lshl (.op1 .i2l (.op1 .l2i (.op2 .land (.op2 .lshr (.arg 60001) (.int 16)) (.long 255)))) (.int 0)) (.long 0)) (.op2 .lshl (.op1 .i2l (.op1 .l2i (.op2 .land (.op2 .lshr (.arg 60001) (.int 24)) (.long 255)))) (.int 8))) (.op2 .land (.op2 .lushr (.arg 60001) (.int 16)) (.long 65535)) = true := by decide +kernel
theorem tk_1_3 : tbv [] (.op2 .lor (.op2 .lor (.op2 .lshl (.op1 .i2l (.op1 .l2i (.op2 .land (.op2 .lshr (.arg 60001) (.int 24)) (.long 255)))) (.int 0)) (.long 0)) (.op2 .lshl (.op1 .i2l (.op1 .l2i (.op2 .land (.op2 .lshr (.arg 60001) (.int 32)) (.long 255)))) (.int 8))) (.op2 .land (.op2 .lushr (.arg 60001) (.int 24)) (.long 65535)) = true := by decide +kernel
theorem tk_1_4 : tbv [] (.op2 .lor (.op2 .lor (.op2 .lshl (.op1 .i2l (.op1 .l2i (.op2 .land (.op2 .lshr (.arg 60001) (.int 32)) (.long 255)))) (.int 0)) (.long 0)) (.op2 .lshl (.op1 .i2l (.op1 .l2i (.op2 .land (.op2 .lshr (.arg 60001) (.int 40)) (.long 255)))) (.int 8))) (.op2 .land (.op2 .lushr (.arg 60001) (.int 32)) (.long 65535)) = true := by decide +kernel
theorem tk_1_5 : tbv [] (.op2 .lor (.op2 .lor (.op2 .lshl (.op1 .i2l (.op1 .l2i (.op2 .land (.op2 .lshr (.arg 60001) (.int 40)) (.long 255)))) (.int 0)) (.long 0)) (.op2 .lshl (.op1 .i2l (.op1 .l2i (.op2 .land (.op2 .lshr (.arg 60001) (.int 48)) (.long 255)))) (.int 8))) (.op2 .land (.op2 .lushr (.arg 60001) (.int 40)) (.long 65535)) = true := by decide +kernel
theorem tk_1_6 : tbv [] (.op2 .lor (.op2 .lor (.op2 .lshl (.op1 .i2l (.op1 .l2i (.op2 .land (.op2 .lshr (.arg 60001) (.int 48)) (.long 255)))) (.int 0)) (.long 0)) (.op2 .lshl (.op1 .i2l (.op1 .l2i (.op2 .land (.op2 .lshr (.arg 60001) (.int 56)) (.long 255)))) (.int 8))) (.op2 .land (.op2 .lushr (.arg 60001) (.int 48)) (.long 65535)) = true := by decide +kernel
theorem tk_2_0 : tbv [] (.op2 .lor (.op2 .lor (.op2 .lor (.op2 .lor (.op2 .lshl (.op1 .i2l (.op1 .l2i (.op2 .land (.op2 .lshr (.arg 60001) (.int 0)) (.long 255)))) (.int 0)) (.long 0)) (.op2 .lshl (.op1 .i2l (.op1 .l2i (.op2 .land (.op2 .lshr (.arg 60001) (.int 8)) (.long 255)))) (.int 8))) (.op2 .lshl (.op1 .i2l (.op1 .l2i (.op2 .land (.op2 .lshr (.arg 60001) (.int 16)) (.long 255)))) (.int 16))) (.op2 .lshl (.op1 .i2l (.op1 .l2i (.op2 .land (.op2 .lshr (.arg 60001) (.int 24)) (.long 255)))) (.int 24))) (.op2 .land (.op2 .lushr (.arg 60001) (.int 0)) (.long 4294967295)) = true := by decide +kernel
theorem tk_2_1 : tbv [] (.op2 .lor (.op2 .lor (.op2 .lor (.op2 .lor (.op2 .lshl (.op1 .i2l (.op1 .l2i (.op2 .land (.op2 .lshr (.arg 60001) (.int 8)) (.long 255)))) (.int 0)) (.long 0)) (.op2 .lshl (.op1 .i2l (.op1 .l2i (.op2 .land (.op2 .lshr (.arg 60001) (.int 16)) (.long 255)))) (.int 8))) (.op2 .lshl (.op1 .i2l (.op1 .l2i (.op2 .land (.op2 .lshr (.arg 60001) (.int 24)) (.long 255)))) (.int 16))) (.op2 .lshl (.op1 .i2l (.op1 .l2i (.op2 .land (.op2 .lshr (.arg 60001) (.int 32)) (.long 255)))) (.int 24))) (.op2 .land (.op2 .lushr (.arg 60001) (.int 8)) (.long 4294967295)) = true := by decide +kernel
theorem tk_2_2 : tbv [] (.op2 .lor (.op2 .lor (.op2 .lor (.op2 .lor (.op2 .lshl (.op1 .i2l (.op1 .l2i (.op2 .land (.op2 .lshr (.arg 60001) (.int 16)) (.long 255)))) (.int 0)) (.long 0)) (.op2 .lshl (.op1 .i2l (.op1 .l2i (.op2 .land (.op2 .lshr (.arg 60001) (.int 24)) (.long 255)))) (.int 8))) (.op2 .lshl (.op1 .i2l (.op1 .l2i (.op2 .land (.op2 .lshr (.arg 60001) (.int 32)) (.long 255)))) (.int 16))) (.op2 .lshl (.op1 .i2l (.op1 .l2i (.op2 .land (.op2 .lshr (.arg 60001) (.int 40)) (.long 255)))) (.int 24))) (.op2 .land (.op2 .lushr (.arg 60001) (.int 16)) (.long 4294967295)) = true := by decide +kernel
theorem tk_2_3 : tbv [] (.op2 .lor (.op2 .lor (.op2 .lor (.op2 .lor (.op2 .lshl (.op1 .i2l (.op1 .l2i (.op2 .land (.op2 .lshr (.arg 60001) (.int 24)) (.long 255)))) (.int 0)) (.long 0)) (.op2 .lshl (.op1 .i2l (.op1 .l2i (.op2 .land (.op2 .lshr (.arg 60001) (.int 32)) (.long 255)))) (.int 8))) (.op2 .lshl (.op1 .i2l (.op1 .l2i (.op2 .land (.op2 .lshr (.arg 60001) (.int 40)) (.long 255)))) (.int 16))) (.op2 .lshl (.op1 .i2l (.op1 .l2i (.op2 .land (.op2 .lshr (.arg 60001) (.int 48)) (.long 255)))) (.int 24))) (.op2 .land (.op2 .lushr (.arg 60001) (.int 24)) (.long 4294967295)) = true := by decide +kernel
theorem tk_2_4 : tbv [] (.op2 .lor (.op2 .lor (.op2 .lor (.op2 .lor (.op2 .lshl (.op1 .i2l (.op1 .l2i (.op2 .land (.op2 .lshr (.arg 60001) (.int 32)) (.long 255)))) (.int 0)) (.long 0)) (.op2 .lshl (.op1 .i2l (.op1 .l2i (.op2 .land (.op2 .lshr (.arg 60001) (.int 40)) (.long 255)))) (.int 8))) (.op2 .lshl (.op1 .i2l (.op1 .l2i (.op2 .land (.op2 .lshr (.arg 60001) (.int 48)) (.long 255)))) (.int 16))) (.op2 .lshl (.op1 .i2l (.op1 .l2i (.op2 .land (.op2 .lshr (.arg 60001) (.int 56)) (.long 255)))) (.int 24))) (.op2 .land (.op2 .lushr (.arg 60001) (.int 32)) (.long 4294967295)) = true := by decide +kernel
theorem tk_3_0 : tbv [] (.op2 .lshr (.op2 .lshl (.op2 .lor (.op2 .lshl (.op1 .i2l (.op1 .l2i (.op2 .land (.op2 .lshr (.arg 60001) (.int 0)) (.long 255)))) (.int 0)) (.long 0)) (.int 56)) (.int 56)) (.op2 .lshr (.op2 .lshl (.op2 .lushr (.arg 60001) (.int 0)) (.int 56)) (.int 56)) = true := by decide +kernel
theorem tk_3_1 : tbv [] (.op2 .lshr (.op2 .lshl (.op2 .lor (.op2 .lshl (.op1 .i2l (.op1 .l2i (.op2 .land (.op2 .lshr (.arg 60001) (.int 8)) (.long 255)))) (.int 0)) (.long 0)) (.int 56)) (.int 56)) (.op2 .lshr (.op2 .lshl (.op2 .lushr (.arg 60001) (.int 8)) (.int 56)) (.int 56)) = true := by decide +kernel
theorem tk_3_2 : tbv [] (.op2 .lshr (.op2 .lshl (.op2 .lor (.op2 .lshl (.op1 .i2l (.op1 .l2i (.op2 .land (.op2 .lshr (.arg 60001) (.int 16)) (.long 255)))) (.int 0)) (.long 0)) (.int 56)) (.int 56)) (.op2 .lshr (.op2 .lshl (.op2 .lushr (.arg 60001) (.int 16)) (.int 56)) (.int 56)) = true := by decide +kernel
theorem tk_3_3 : tbv [] (.op2 .lshr (.op2 .lshl (.op2 .lor (.op2 .lshl (.op1 .i2l (.op1 .l2i (.op2 .land (.op2 .lshr (.arg 60001) (.int 24)) (.long 255)))) (.int 0)) (.long 0)) (.int 56)) (.int 56)) (.op2 .lshr (.op2 .lshl (.op2 .lushr (.arg 60001) (.int 24)) (.int 56)) (.int 56)) = true := by decide +kernel
theorem tk_3_4 : tbv [] (.op2 .lshr (.op2 .lshl (.op2 .lor (.op2 .lshl (.op1 .i2l (.op1 .l2i (.op2 .land (.op2 .lshr (.arg 60001) (.int 32)) (.long 255)))) (.int 0)) (.long 0)) (.int 56)) (.int 56)) (.op2 .lshr (.op2 .lshl (.op2 .lushr (.arg 60001) (.int 32)) (.int 56)) (.int 56)) = true := by decide +kernel
theorem tk_3_5 : tbv [] (.op2 .lshr (.op2 .lshl (.op2 .lor (.op2 .lshl (.op1 .i2l (.op1 .l2i (.op2 .land (.op2 .lshr (.arg 60001) (.int 40)) (.long 255)))) (.int 0)) (.long 0)) (.int 56)) (.int 56)) (.op2 .lshr (.op2 .lshl (.op2 .lushr (.arg 60001) (.int 40)) (.int 56)) (.int 56)) = true := by decide +kernel
theorem tk_3_6 : tbv [] (.op2 .lshr (.op2 .lshl (.op2 .lor (.op2 .lshl (.op1 .i2l (.op1 .l2i (.op2 .land (.op2 .lshr (.arg 60001) (.int 48)) (.long 255)))) (.int 0)) (.long 0)) (.int 56)) (.int 56)) (.op2 .lshr (.op2 .lshl (.op2 .lushr (.arg 60001) (.int 48)) (.int 56)) (.int 56)) = true := by decide +kernel
theorem tk_3_7 : tbv [] (.op2 .lshr (.op2 .lshl (.op2 .lor (.op2 .lshl (.op1 .i2l (.op1 .l2i (.op2 .land (.op2 .lshr (.arg 60001) (.int 56)) (.long 255)))) (.int 0)) (.long 0)) (.int 56)) (.int 56)) (.op2 .lshr (.op2 .lshl (.op2 .lushr (.arg 60001) (.int 56)) (.int 56)) (.int 56)) = true := by decide +kernel
theorem tk_5_0 : tbv [] (.op2 .lshr (.op2 .lshl (.op2 .lor (.op2 .lor (.op2 .lor (.op2 .lor (.op2 .lshl (.op1 .i2l (.op1 .l2i (.op2 .land (.op2 .lshr (.arg 60001) (.int 0)) (.long 255)))) (.int 0)) (.long 0)) (.op2 .lshl (.op1 .i2l (.op1 .l2i (.op2 .land (.op2 .lshr (.arg 60001) (.int 8)) (.long 255)))) (.int 8))) (.op2 .lshl (.op1 .i2l (.op1 .l2i (.op2 .land (.op2 .lshr (.arg 60001) (.int 16)) (.long 255)))) (.int 16))) (.op2 .lshl (.op1 .i2l (.op1 .l2i (.op2 .land (.op2 .lshr (.arg 60001) (.int 24)) (.long 255)))) (.int 24))) (.int 32)) (.int 32)) (.op1 .i2l (.op1 .l2i (.op2 .lushr (.arg 60001) (.int 0)))) = true := by decide +kernel
theorem tk_5_1 : tbv [] (.op2 .lshr (.op2 .lshl (.op2 .lor (.op2 .lor (.op2 .lor (.op2 .lor (.op2 .lshl (.op1 .i2l (.op1 .l2i (.op2 .land (.op2 .lshr (.arg 60001) (.int 8)) (.long 255)))) (.int 0)) (.long 0)) (.op2 .lshl (.op1 .i2l (.op1 .l2i (.op2 .land (.op2 .lshr (.arg 60001) (.int 16)) (.long 255)))) (.int 8))) (.op2 .lshl (.op1 .i2l (.op1 .l2i (.op2 .land (.op2 .lshr (.arg 60001) (.int 24)) (.long 255)))) (.int 16))) (.op2 .lshl (.op1 .i2l (.op1 .l2i (.op2 .land (.op2 .lshr (.arg 60001) (.int 32)) (.long 255)))) (.int 24))) (.int 32)) (.int 32)) (.op1 .i2l (.op1 .l2i (.op2 .lushr (.arg 60001) (.int 8)))) = true := by decide +kernel
theorem tk_5_2 : tbv [] (.op2 .lshr (.op2 .lshl (.op2 .lor (.op2 .lor (.op2 .lor (.op2 .lor (.op2 .lshl (.op1 .i2l (.op1 .l2i (.op2 .land (.op2 .lshr (.arg 60001) (.int 16)) (.long 255)))) (.int 0)) (.long 0)) (.op2 .lshl (.op1 .i2l (.op1 .l2i (.op2 .land (.op2 .lshr (.arg 60001) (.int 24)) (.long 255)))) (.int 8))) (.op2 .lshl (.op1 .i2l (.op1 .l2i (.op2 .land (.op2 .lshr (.arg 60001) (.int 32)) (.long 255)))) (.int 16))) (.op2 .lshl (.op1 .i2l (.op1 .l2i (.op2 .land (.op2 .lshr (.arg 60001) (.int 40)) (.long 255)))) (.int 24))) (.int 32)) (.int 32)) (.op1 .i2l (.op1 .l2i (.op2 .lushr (.arg 60001) (.int 16)))) = true := by decide +kernel
theorem tk_5_3 : tbv [] (.op2 .lshr (.op2 .lshl (.op2 .lor (.op2 .lor (.op2 .lor (.op2 .lor (.op2 .lshl (.op1 .i2l (.op1 .l2i (.op2 .land (.op2 .lshr (.arg 60001) (.int 24)) (.long 255)))) (.int 0)) (.long 0)) (.op2 .lshl (.op1 .i2l (.op1 .l2i (.op2 .land (.op2 .lshr (.arg 60001) (.int 32)) (.long 255)))) (.int 8))) (.op2 .lshl (.op1 .i2l (.op1 .l2i (.op2 .land (.op2 .lshr (.arg 60001) (.int 40)) (.long 255)))) (.int 16))) (.op2 .lshl (.op1 .i2l (.op1 .l2i (.op2 .land (.op2 .lshr (.arg 60001) (.int 48)) (.long 255)))) (.int 24))) (.int 32)) (.int 32)) (.op1 .i2l (.op1 .l2i (.op2 .lushr (.arg 60001) (.int 24)))) = true := by decide +kernel
theorem tk_5_4 : tbv [] (.op2 .lshr (.op2 .lshl (.op2 .lor (.op2 .lor (.op2 .lor (.op2 .lor (.op2 .lshl (.op1 .i2l (.op1 .l2i (.op2 .land (.op2 .lshr (.arg 60001) (.int 32)) (.long 255)))) (.int 0)) (.long 0)) (.op2 .lshl (.op1 .i2l (.op1 .l2i (.op2 .land (.op2 .lshr (.arg 60001) (.int 40)) (.long 255)))) (.int 8))) (.op2 .lshl (.op1 .i2l (.op1 .l2i (.op2 .land (.op2 .lshr (.arg 60001) (.int 48)) (.long 255)))) (.int 16))) (.op2 .lshl (.op1 .i2l (.op1 .l2i (.op2 .land (.op2 .lshr (.arg 60001) (.int 56)) (.long 255)))) (.int 24))) (.int 32)) (.int 32)) (.op1 .i2l (.op1 .l2i (.op2 .lushr (.arg 60001) (.int 32)))) = true := by decide +kernel
theorem tk_1 {X : pX} {ρ : sR} (hv : vok X ρ) {a : Nat} (h : (ρ.1 60096).toInt = 8 * a) (ha : a < 7) : sc X ρ (6, .op2 .lor (.op2 .lor (.op2 .lshl (.op1 .i2l (.op1 .l2i (.op2 .land (.op2 .lshr (.arg 60001) (.mul (.div (.arg 60096) (.int 8)) (.int 8))) (.long 255)))) (.int 0)) (.long 0)) (.op2 .lshl (.op1 .i2l (.op1 .l2i (.op2 .land (.op2 .lshr (.arg 60001) (.mul (.add (.div (.arg 60096) (.int 8)) (.int 1)) (.int 8))) (.long 255)))) (.int 8)), .op2 .land (.op2 .lushr (.arg 60001) (.arg 60096)) (.long 65535)) = true := by
  rcases (show a = 0 ∨ a = 1 ∨ a = 2 ∨ a = 3 ∨ a = 4 ∨ a = 5 ∨ a = 6 by omega) with rfl | rfl | rfl | rfl | rfl | rfl | rfl
  · have e : ρ.1 60096 = 0 := Int32.toInt_inj.mp h
    have q := tbv_ok (X := X) (ρ := ρ) (F := []) ⟨hv, fun f hf => by cases hf⟩ tk_1_0
    rw [sv_long rfl, sv_long rfl] at q
    have q := Value.long.inj q
    refine decide_eq_true ?_
    simp only [sd, s1, s2] at q ⊢
    rw [e]
    simp only [show ((0 : Int32)) / 8 * 8 = 0 from by decide, show (((0 : Int32)) / 8 + 1) * 8 = 8 from by decide]
    exact q
  · have e : ρ.1 60096 = 8 := Int32.toInt_inj.mp h
    have q := tbv_ok (X := X) (ρ := ρ) (F := []) ⟨hv, fun f hf => by cases hf⟩ tk_1_1
    rw [sv_long rfl, sv_long rfl] at q
    have q := Value.long.inj q
    refine decide_eq_true ?_
    simp only [sd, s1, s2] at q ⊢
    rw [e]
    simp only [show ((8 : Int32)) / 8 * 8 = 8 from by decide, show (((8 : Int32)) / 8 + 1) * 8 = 16 from by decide]
    exact q
  · have e : ρ.1 60096 = 16 := Int32.toInt_inj.mp h
    have q := tbv_ok (X := X) (ρ := ρ) (F := []) ⟨hv, fun f hf => by cases hf⟩ tk_1_2
    rw [sv_long rfl, sv_long rfl] at q
    have q := Value.long.inj q
    refine decide_eq_true ?_
    simp only [sd, s1, s2] at q ⊢
    rw [e]
    simp only [show ((16 : Int32)) / 8 * 8 = 16 from by decide, show (((16 : Int32)) / 8 + 1) * 8 = 24 from by decide]
    exact q
  · have e : ρ.1 60096 = 24 := Int32.toInt_inj.mp h
    have q := tbv_ok (X := X) (ρ := ρ) (F := []) ⟨hv, fun f hf => by cases hf⟩ tk_1_3
    rw [sv_long rfl, sv_long rfl] at q
    have q := Value.long.inj q
    refine decide_eq_true ?_
    simp only [sd, s1, s2] at q ⊢
    rw [e]
    simp only [show ((24 : Int32)) / 8 * 8 = 24 from by decide, show (((24 : Int32)) / 8 + 1) * 8 = 32 from by decide]
    exact q
  · have e : ρ.1 60096 = 32 := Int32.toInt_inj.mp h
    have q := tbv_ok (X := X) (ρ := ρ) (F := []) ⟨hv, fun f hf => by cases hf⟩ tk_1_4
    rw [sv_long rfl, sv_long rfl] at q
    have q := Value.long.inj q
    refine decide_eq_true ?_
    simp only [sd, s1, s2] at q ⊢
    rw [e]
    simp only [show ((32 : Int32)) / 8 * 8 = 32 from by decide, show (((32 : Int32)) / 8 + 1) * 8 = 40 from by decide]
    exact q
  · have e : ρ.1 60096 = 40 := Int32.toInt_inj.mp h
    have q := tbv_ok (X := X) (ρ := ρ) (F := []) ⟨hv, fun f hf => by cases hf⟩ tk_1_5
    rw [sv_long rfl, sv_long rfl] at q
    have q := Value.long.inj q
    refine decide_eq_true ?_
    simp only [sd, s1, s2] at q ⊢
    rw [e]
    simp only [show ((40 : Int32)) / 8 * 8 = 40 from by decide, show (((40 : Int32)) / 8 + 1) * 8 = 48 from by decide]
    exact q
  · have e : ρ.1 60096 = 48 := Int32.toInt_inj.mp h
    have q := tbv_ok (X := X) (ρ := ρ) (F := []) ⟨hv, fun f hf => by cases hf⟩ tk_1_6
    rw [sv_long rfl, sv_long rfl] at q
    have q := Value.long.inj q
    refine decide_eq_true ?_
    simp only [sd, s1, s2] at q ⊢
    rw [e]
    simp only [show ((48 : Int32)) / 8 * 8 = 48 from by decide, show (((48 : Int32)) / 8 + 1) * 8 = 56 from by decide]
    exact q
theorem tk_2 {X : pX} {ρ : sR} (hv : vok X ρ) {a : Nat} (h : (ρ.1 60096).toInt = 8 * a) (ha : a < 5) : sc X ρ (6, .op2 .lor (.op2 .lor (.op2 .lor (.op2 .lor (.op2 .lshl (.op1 .i2l (.op1 .l2i (.op2 .land (.op2 .lshr (.arg 60001) (.mul (.div (.arg 60096) (.int 8)) (.int 8))) (.long 255)))) (.int 0)) (.long 0)) (.op2 .lshl (.op1 .i2l (.op1 .l2i (.op2 .land (.op2 .lshr (.arg 60001) (.mul (.add (.div (.arg 60096) (.int 8)) (.int 1)) (.int 8))) (.long 255)))) (.int 8))) (.op2 .lshl (.op1 .i2l (.op1 .l2i (.op2 .land (.op2 .lshr (.arg 60001) (.mul (.add (.div (.arg 60096) (.int 8)) (.int 2)) (.int 8))) (.long 255)))) (.int 16))) (.op2 .lshl (.op1 .i2l (.op1 .l2i (.op2 .land (.op2 .lshr (.arg 60001) (.mul (.add (.div (.arg 60096) (.int 8)) (.int 3)) (.int 8))) (.long 255)))) (.int 24)), .op2 .land (.op2 .lushr (.arg 60001) (.arg 60096)) (.long 4294967295)) = true := by
  rcases (show a = 0 ∨ a = 1 ∨ a = 2 ∨ a = 3 ∨ a = 4 by omega) with rfl | rfl | rfl | rfl | rfl
  · have e : ρ.1 60096 = 0 := Int32.toInt_inj.mp h
    have q := tbv_ok (X := X) (ρ := ρ) (F := []) ⟨hv, fun f hf => by cases hf⟩ tk_2_0
    rw [sv_long rfl, sv_long rfl] at q
    have q := Value.long.inj q
    refine decide_eq_true ?_
    simp only [sd, s1, s2] at q ⊢
    rw [e]
    simp only [show ((0 : Int32)) / 8 * 8 = 0 from by decide, show (((0 : Int32)) / 8 + 1) * 8 = 8 from by decide, show (((0 : Int32)) / 8 + 2) * 8 = 16 from by decide, show (((0 : Int32)) / 8 + 3) * 8 = 24 from by decide]
    exact q
  · have e : ρ.1 60096 = 8 := Int32.toInt_inj.mp h
    have q := tbv_ok (X := X) (ρ := ρ) (F := []) ⟨hv, fun f hf => by cases hf⟩ tk_2_1
    rw [sv_long rfl, sv_long rfl] at q
    have q := Value.long.inj q
    refine decide_eq_true ?_
    simp only [sd, s1, s2] at q ⊢
    rw [e]
    simp only [show ((8 : Int32)) / 8 * 8 = 8 from by decide, show (((8 : Int32)) / 8 + 1) * 8 = 16 from by decide, show (((8 : Int32)) / 8 + 2) * 8 = 24 from by decide, show (((8 : Int32)) / 8 + 3) * 8 = 32 from by decide]
    exact q
  · have e : ρ.1 60096 = 16 := Int32.toInt_inj.mp h
    have q := tbv_ok (X := X) (ρ := ρ) (F := []) ⟨hv, fun f hf => by cases hf⟩ tk_2_2
    rw [sv_long rfl, sv_long rfl] at q
    have q := Value.long.inj q
    refine decide_eq_true ?_
    simp only [sd, s1, s2] at q ⊢
    rw [e]
    simp only [show ((16 : Int32)) / 8 * 8 = 16 from by decide, show (((16 : Int32)) / 8 + 1) * 8 = 24 from by decide, show (((16 : Int32)) / 8 + 2) * 8 = 32 from by decide, show (((16 : Int32)) / 8 + 3) * 8 = 40 from by decide]
    exact q
  · have e : ρ.1 60096 = 24 := Int32.toInt_inj.mp h
    have q := tbv_ok (X := X) (ρ := ρ) (F := []) ⟨hv, fun f hf => by cases hf⟩ tk_2_3
    rw [sv_long rfl, sv_long rfl] at q
    have q := Value.long.inj q
    refine decide_eq_true ?_
    simp only [sd, s1, s2] at q ⊢
    rw [e]
    simp only [show ((24 : Int32)) / 8 * 8 = 24 from by decide, show (((24 : Int32)) / 8 + 1) * 8 = 32 from by decide, show (((24 : Int32)) / 8 + 2) * 8 = 40 from by decide, show (((24 : Int32)) / 8 + 3) * 8 = 48 from by decide]
    exact q
  · have e : ρ.1 60096 = 32 := Int32.toInt_inj.mp h
    have q := tbv_ok (X := X) (ρ := ρ) (F := []) ⟨hv, fun f hf => by cases hf⟩ tk_2_4
    rw [sv_long rfl, sv_long rfl] at q
    have q := Value.long.inj q
    refine decide_eq_true ?_
    simp only [sd, s1, s2] at q ⊢
    rw [e]
    simp only [show ((32 : Int32)) / 8 * 8 = 32 from by decide, show (((32 : Int32)) / 8 + 1) * 8 = 40 from by decide, show (((32 : Int32)) / 8 + 2) * 8 = 48 from by decide, show (((32 : Int32)) / 8 + 3) * 8 = 56 from by decide]
    exact q
theorem tk_3 {X : pX} {ρ : sR} (hv : vok X ρ) {a : Nat} (h : (ρ.1 60096).toInt = 8 * a) (ha : a < 8) : sc X ρ (6, .op2 .lshr (.op2 .lshl (.op2 .lor (.op2 .lshl (.op1 .i2l (.op1 .l2i (.op2 .land (.op2 .lshr (.arg 60001) (.mul (.div (.arg 60096) (.int 8)) (.int 8))) (.long 255)))) (.int 0)) (.long 0)) (.int 56)) (.int 56), .op1 .i2l (.op1 .i2b (.op1 .l2i (.op2 .lushr (.arg 60001) (.arg 60096))))) = true := by
  rcases (show a = 0 ∨ a = 1 ∨ a = 2 ∨ a = 3 ∨ a = 4 ∨ a = 5 ∨ a = 6 ∨ a = 7 by omega) with rfl | rfl | rfl | rfl | rfl | rfl | rfl | rfl
  · have e : ρ.1 60096 = 0 := Int32.toInt_inj.mp h
    have q := tbv_ok (X := X) (ρ := ρ) (F := []) ⟨hv, fun f hf => by cases hf⟩ tk_3_0
    rw [sv_long rfl, sv_long rfl] at q
    have q := Value.long.inj q
    refine decide_eq_true (Eq.trans (b := (s2 .lshr (s2 .lshl (0, (sd X ρ (.op2 .lushr (.arg 60001) (.arg 60096))).2) (56, 0)) (56, 0)).2) ?_ (ty_8 _))
    simp only [sd, s1, s2] at q ⊢
    rw [e]
    simp only [show ((0 : Int32)) / 8 * 8 = 0 from by decide]
    exact q
  · have e : ρ.1 60096 = 8 := Int32.toInt_inj.mp h
    have q := tbv_ok (X := X) (ρ := ρ) (F := []) ⟨hv, fun f hf => by cases hf⟩ tk_3_1
    rw [sv_long rfl, sv_long rfl] at q
    have q := Value.long.inj q
    refine decide_eq_true (Eq.trans (b := (s2 .lshr (s2 .lshl (0, (sd X ρ (.op2 .lushr (.arg 60001) (.arg 60096))).2) (56, 0)) (56, 0)).2) ?_ (ty_8 _))
    simp only [sd, s1, s2] at q ⊢
    rw [e]
    simp only [show ((8 : Int32)) / 8 * 8 = 8 from by decide]
    exact q
  · have e : ρ.1 60096 = 16 := Int32.toInt_inj.mp h
    have q := tbv_ok (X := X) (ρ := ρ) (F := []) ⟨hv, fun f hf => by cases hf⟩ tk_3_2
    rw [sv_long rfl, sv_long rfl] at q
    have q := Value.long.inj q
    refine decide_eq_true (Eq.trans (b := (s2 .lshr (s2 .lshl (0, (sd X ρ (.op2 .lushr (.arg 60001) (.arg 60096))).2) (56, 0)) (56, 0)).2) ?_ (ty_8 _))
    simp only [sd, s1, s2] at q ⊢
    rw [e]
    simp only [show ((16 : Int32)) / 8 * 8 = 16 from by decide]
    exact q
  · have e : ρ.1 60096 = 24 := Int32.toInt_inj.mp h
    have q := tbv_ok (X := X) (ρ := ρ) (F := []) ⟨hv, fun f hf => by cases hf⟩ tk_3_3
    rw [sv_long rfl, sv_long rfl] at q
    have q := Value.long.inj q
    refine decide_eq_true (Eq.trans (b := (s2 .lshr (s2 .lshl (0, (sd X ρ (.op2 .lushr (.arg 60001) (.arg 60096))).2) (56, 0)) (56, 0)).2) ?_ (ty_8 _))
    simp only [sd, s1, s2] at q ⊢
    rw [e]
    simp only [show ((24 : Int32)) / 8 * 8 = 24 from by decide]
    exact q
  · have e : ρ.1 60096 = 32 := Int32.toInt_inj.mp h
    have q := tbv_ok (X := X) (ρ := ρ) (F := []) ⟨hv, fun f hf => by cases hf⟩ tk_3_4
    rw [sv_long rfl, sv_long rfl] at q
    have q := Value.long.inj q
    refine decide_eq_true (Eq.trans (b := (s2 .lshr (s2 .lshl (0, (sd X ρ (.op2 .lushr (.arg 60001) (.arg 60096))).2) (56, 0)) (56, 0)).2) ?_ (ty_8 _))
    simp only [sd, s1, s2] at q ⊢
    rw [e]
    simp only [show ((32 : Int32)) / 8 * 8 = 32 from by decide]
    exact q
  · have e : ρ.1 60096 = 40 := Int32.toInt_inj.mp h
    have q := tbv_ok (X := X) (ρ := ρ) (F := []) ⟨hv, fun f hf => by cases hf⟩ tk_3_5
    rw [sv_long rfl, sv_long rfl] at q
    have q := Value.long.inj q
    refine decide_eq_true (Eq.trans (b := (s2 .lshr (s2 .lshl (0, (sd X ρ (.op2 .lushr (.arg 60001) (.arg 60096))).2) (56, 0)) (56, 0)).2) ?_ (ty_8 _))
    simp only [sd, s1, s2] at q ⊢
    rw [e]
    simp only [show ((40 : Int32)) / 8 * 8 = 40 from by decide]
    exact q
  · have e : ρ.1 60096 = 48 := Int32.toInt_inj.mp h
    have q := tbv_ok (X := X) (ρ := ρ) (F := []) ⟨hv, fun f hf => by cases hf⟩ tk_3_6
    rw [sv_long rfl, sv_long rfl] at q
    have q := Value.long.inj q
    refine decide_eq_true (Eq.trans (b := (s2 .lshr (s2 .lshl (0, (sd X ρ (.op2 .lushr (.arg 60001) (.arg 60096))).2) (56, 0)) (56, 0)).2) ?_ (ty_8 _))
    simp only [sd, s1, s2] at q ⊢
    rw [e]
    simp only [show ((48 : Int32)) / 8 * 8 = 48 from by decide]
    exact q
  · have e : ρ.1 60096 = 56 := Int32.toInt_inj.mp h
    have q := tbv_ok (X := X) (ρ := ρ) (F := []) ⟨hv, fun f hf => by cases hf⟩ tk_3_7
    rw [sv_long rfl, sv_long rfl] at q
    have q := Value.long.inj q
    refine decide_eq_true (Eq.trans (b := (s2 .lshr (s2 .lshl (0, (sd X ρ (.op2 .lushr (.arg 60001) (.arg 60096))).2) (56, 0)) (56, 0)).2) ?_ (ty_8 _))
    simp only [sd, s1, s2] at q ⊢
    rw [e]
    simp only [show ((56 : Int32)) / 8 * 8 = 56 from by decide]
    exact q
theorem tk_5 {X : pX} {ρ : sR} (hv : vok X ρ) {a : Nat} (h : (ρ.1 60096).toInt = 8 * a) (ha : a < 5) : sc X ρ (6, .op2 .lshr (.op2 .lshl (.op2 .lor (.op2 .lor (.op2 .lor (.op2 .lor (.op2 .lshl (.op1 .i2l (.op1 .l2i (.op2 .land (.op2 .lshr (.arg 60001) (.mul (.div (.arg 60096) (.int 8)) (.int 8))) (.long 255)))) (.int 0)) (.long 0)) (.op2 .lshl (.op1 .i2l (.op1 .l2i (.op2 .land (.op2 .lshr (.arg 60001) (.mul (.add (.div (.arg 60096) (.int 8)) (.int 1)) (.int 8))) (.long 255)))) (.int 8))) (.op2 .lshl (.op1 .i2l (.op1 .l2i (.op2 .land (.op2 .lshr (.arg 60001) (.mul (.add (.div (.arg 60096) (.int 8)) (.int 2)) (.int 8))) (.long 255)))) (.int 16))) (.op2 .lshl (.op1 .i2l (.op1 .l2i (.op2 .land (.op2 .lshr (.arg 60001) (.mul (.add (.div (.arg 60096) (.int 8)) (.int 3)) (.int 8))) (.long 255)))) (.int 24))) (.int 32)) (.int 32), .op1 .i2l (.op1 .l2i (.op2 .lushr (.arg 60001) (.arg 60096)))) = true := by
  rcases (show a = 0 ∨ a = 1 ∨ a = 2 ∨ a = 3 ∨ a = 4 by omega) with rfl | rfl | rfl | rfl | rfl
  · have e : ρ.1 60096 = 0 := Int32.toInt_inj.mp h
    have q := tbv_ok (X := X) (ρ := ρ) (F := []) ⟨hv, fun f hf => by cases hf⟩ tk_5_0
    rw [sv_long rfl, sv_long rfl] at q
    have q := Value.long.inj q
    refine decide_eq_true ?_
    simp only [sd, s1, s2] at q ⊢
    rw [e]
    simp only [show ((0 : Int32)) / 8 * 8 = 0 from by decide, show (((0 : Int32)) / 8 + 1) * 8 = 8 from by decide, show (((0 : Int32)) / 8 + 2) * 8 = 16 from by decide, show (((0 : Int32)) / 8 + 3) * 8 = 24 from by decide]
    exact q
  · have e : ρ.1 60096 = 8 := Int32.toInt_inj.mp h
    have q := tbv_ok (X := X) (ρ := ρ) (F := []) ⟨hv, fun f hf => by cases hf⟩ tk_5_1
    rw [sv_long rfl, sv_long rfl] at q
    have q := Value.long.inj q
    refine decide_eq_true ?_
    simp only [sd, s1, s2] at q ⊢
    rw [e]
    simp only [show ((8 : Int32)) / 8 * 8 = 8 from by decide, show (((8 : Int32)) / 8 + 1) * 8 = 16 from by decide, show (((8 : Int32)) / 8 + 2) * 8 = 24 from by decide, show (((8 : Int32)) / 8 + 3) * 8 = 32 from by decide]
    exact q
  · have e : ρ.1 60096 = 16 := Int32.toInt_inj.mp h
    have q := tbv_ok (X := X) (ρ := ρ) (F := []) ⟨hv, fun f hf => by cases hf⟩ tk_5_2
    rw [sv_long rfl, sv_long rfl] at q
    have q := Value.long.inj q
    refine decide_eq_true ?_
    simp only [sd, s1, s2] at q ⊢
    rw [e]
    simp only [show ((16 : Int32)) / 8 * 8 = 16 from by decide, show (((16 : Int32)) / 8 + 1) * 8 = 24 from by decide, show (((16 : Int32)) / 8 + 2) * 8 = 32 from by decide, show (((16 : Int32)) / 8 + 3) * 8 = 40 from by decide]
    exact q
  · have e : ρ.1 60096 = 24 := Int32.toInt_inj.mp h
    have q := tbv_ok (X := X) (ρ := ρ) (F := []) ⟨hv, fun f hf => by cases hf⟩ tk_5_3
    rw [sv_long rfl, sv_long rfl] at q
    have q := Value.long.inj q
    refine decide_eq_true ?_
    simp only [sd, s1, s2] at q ⊢
    rw [e]
    simp only [show ((24 : Int32)) / 8 * 8 = 24 from by decide, show (((24 : Int32)) / 8 + 1) * 8 = 32 from by decide, show (((24 : Int32)) / 8 + 2) * 8 = 40 from by decide, show (((24 : Int32)) / 8 + 3) * 8 = 48 from by decide]
    exact q
  · have e : ρ.1 60096 = 32 := Int32.toInt_inj.mp h
    have q := tbv_ok (X := X) (ρ := ρ) (F := []) ⟨hv, fun f hf => by cases hf⟩ tk_5_4
    rw [sv_long rfl, sv_long rfl] at q
    have q := Value.long.inj q
    refine decide_eq_true ?_
    simp only [sd, s1, s2] at q ⊢
    rw [e]
    simp only [show ((32 : Int32)) / 8 * 8 = 32 from by decide, show (((32 : Int32)) / 8 + 1) * 8 = 40 from by decide, show (((32 : Int32)) / 8 + 2) * 8 = 48 from by decide, show (((32 : Int32)) / 8 + 3) * 8 = 56 from by decide]
    exact q

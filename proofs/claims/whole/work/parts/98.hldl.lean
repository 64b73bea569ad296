set_option maxRecDepth 20000
/-- the searches, where it is known what they find -/
noncomputable def c_slol : sC := (c_sloc.1, c_sloc.2.1, c_sloc.2.2.1, c_sloc.2.2.2.1 ++ [((109, .add (.arg 60000) (.arg 60032), .arg 60192), true)], c_sloc.2.2.2.2.1, (some (.arg 60192), some (.int 0)), [], c_sloc.2.2.2.2.2.2.2)
theorem s_slol {X : pX} : SREL X pF pdfl mt_all kR zWP c_slol := SREL_ans s_sloc (fun ρ hF => ⟨hF.1, fun f hf => hF.2 f (List.mem_append_left _ hf)⟩) (fun ρ ρ' hF hA hG => ⟨⟨by
  have h1 : (ρ.1 60192).toInt = aslot (ρ.1 60000).toInt (ρ.1 60032).toInt := of_decide_eq_true (hF.2 ((109, .add (.arg 60000) (.arg 60032), .arg 60192), true) (List.mem_append_right _ List.mem_cons_self))
  have h2 : (ρ'.1 60160).toInt = aslot (ρ'.1 60000).toInt (ρ'.1 60032).toInt := of_decide_eq_true (hG.2 _ List.mem_cons_self)
  rw [(hA.1 60000 (by decide)).1, (hA.1 60032 (by decide)).1, ← h1] at h2
  show some (sv X ρ' (.arg 60192)) = some (sv X ρ' (.arg 60160))
  rw [sv_int rfl, sv_int rfl]
  show some (Value.int (ρ'.1 60192)) = some (Value.int (ρ'.1 60160))
  rw [(hA.1 60192 (by decide)).1, Int32.toInt_inj.mp h2], rfl⟩, ⟨hG.1, fun f hf => by cases hf⟩⟩)
theorem op_en1 {X : pX} {ρ : sR} (hv : vok X ρ) (h2 : sc X ρ (109, .add (.op1 .l2i (.op2 .land (.op2 .lshr (.arg 5121) (.int 8)) (.long 65535))) (.op1 .l2i (.op2 .land (.op2 .lshr (.arg 5121) (.int 24)) (.long 255))), .arg 21856) = true) (h0 : 0 ≤ (ρ.1 21856).toInt) : ∃ p : Nat, p < 156 ∧ (ρ.1 21856).toInt = p ∧ (sd X ρ (.op2 .land (.op2 .lushr (.arg 5121) (.int 8)) (.long 16777215))).2.toInt = bkw.getD p 0 := by
  have e3 : (sd X ρ (.op2 .land (.op2 .lushr (.arg 5121) (.int 8)) (.long 16777215))).2 = (sd X ρ (.op1 .l2i (.op2 .land (.op2 .lshr (.arg 5121) (.int 8)) (.long 65535)))).1.toInt64 ||| ((sd X ρ (.op1 .l2i (.op2 .land (.op2 .lshr (.arg 5121) (.int 24)) (.long 255)))).1.toInt64 <<< ((16 : Int32).toInt64 &&& 63)) := Value.long.inj ((sv_long rfl).symm.trans ((by_v hv rq_wh).trans (sv_long rfl)))
  have g2 : (ρ.1 21856).toInt = aslot (sd X ρ (.op1 .l2i (.op2 .land (.op2 .lshr (.arg 5121) (.int 8)) (.long 65535)))).1.toInt (sd X ρ (.op1 .l2i (.op2 .land (.op2 .lshr (.arg 5121) (.int 24)) (.long 255)))).1.toInt := of_decide_eq_true h2
  have r := op_rm (X := X) (ρ := ρ)
  rcases as_cases g2 with h | h | ⟨p, hp, hn, hb⟩
  · omega
  · omega
  · have t := List.all_eq_true.mp er_b p (List.mem_range.mpr hp)
    simp only [Bool.and_eq_true, decide_eq_true_eq] at t
    obtain ⟨t1, t2, t3, t4, t5, -⟩ := t
    have a1 : (sd X ρ (.op1 .l2i (.op2 .land (.op2 .lshr (.arg 5121) (.int 8)) (.long 65535)))).1.toInt = ztab100.getD p 0 := by omega
    have a2 : (sd X ρ (.op1 .l2i (.op2 .land (.op2 .lshr (.arg 5121) (.int 24)) (.long 255)))).1.toInt = ztab102.getD p 0 := by omega
    have b1 : (sd X ρ (.op1 .l2i (.op2 .land (.op2 .lshr (.arg 5121) (.int 8)) (.long 65535)))).1 = Int32.ofInt (ztab100.getD p 0) := by rw [← a1, Int32.ofInt_toInt]
    have b2 : (sd X ρ (.op1 .l2i (.op2 .land (.op2 .lshr (.arg 5121) (.int 24)) (.long 255)))).1 = Int32.ofInt (ztab102.getD p 0) := by rw [← a2, Int32.ofInt_toInt]
    refine ⟨p, hp, hn, ?_⟩
    have t6 := of_decide_eq_true (List.all_eq_true.mp bk_all p (List.mem_range.mpr hp))
    rw [e3, b1, b2, ← t6, Int64.toInt_ofInt]
    have e : (Int64.size : Int) = 18446744073709551616 := rfl
    exact Int.bmod_eq_of_le (by show -((18446744073709551616 : Int) / 2) ≤ _; omega) (by show _ < ((18446744073709551616 : Int) + 1) / 2; omega)
theorem op_109 {X : pX} {ρ : sR} (hv : vok X ρ) (h2 : sc X ρ (109, .add (.op1 .l2i (.op2 .land (.op2 .lshr (.arg 5121) (.int 8)) (.long 65535))) (.op1 .l2i (.op2 .land (.op2 .lshr (.arg 5121) (.int 24)) (.long 255))), .arg 21856) = true) : sc X ρ (109, .add (.op2 .iand (.op1 .l2i (.op2 .lushr (.arg 5121) (.int 8))) (.int 65535)) (.op2 .iand (.op1 .l2i (.op2 .lushr (.arg 5121) (.int 24))) (.int 255)), .arg 21856) = true := by
  have e1 : (sd X ρ (.op2 .iand (.op1 .l2i (.op2 .lushr (.arg 5121) (.int 8))) (.int 65535))).1 = (sd X ρ (.op1 .l2i (.op2 .land (.op2 .lshr (.arg 5121) (.int 8)) (.long 65535)))).1 := Value.int.inj ((sv_int rfl).symm.trans ((by_v hv rq_ix).trans (sv_int rfl)))
  have e2 : (sd X ρ (.op2 .iand (.op1 .l2i (.op2 .lushr (.arg 5121) (.int 24))) (.int 255))).1 = (sd X ρ (.op1 .l2i (.op2 .land (.op2 .lshr (.arg 5121) (.int 24)) (.long 255)))).1 := Value.int.inj ((sv_int rfl).symm.trans ((by_v hv rq_sb).trans (sv_int rfl)))
  have g2 : (ρ.1 21856).toInt = aslot (sd X ρ (.op1 .l2i (.op2 .land (.op2 .lshr (.arg 5121) (.int 8)) (.long 65535)))).1.toInt (sd X ρ (.op1 .l2i (.op2 .land (.op2 .lshr (.arg 5121) (.int 24)) (.long 255)))).1.toInt := of_decide_eq_true h2
  rw [← e1, ← e2] at g2
  exact decide_eq_true g2

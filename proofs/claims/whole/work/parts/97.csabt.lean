/-! ===== nothing is open: abort and refuse ===== -/
noncomputable def c_abtc0 : sC := (c_abtq.1, c_abtq.2.1, c_abtq.2.2.1, [((6, .arg 60001, .arg 5121), true), ((0, .arg 3360, .int 0), true), ((100, .elem (.arg 2944) (.int 0), .arg 1318), true), ((104, .add (.arg 6625) (.add (.arg 7041) (.elem (.arg 2944) (.int 0))), .arg 1318), true), ((2, .arg 2816, .int 1), false), ((2, .int 7, .arg 2816), false)], c_abtq.2.2.2.2.1, c_abtq.2.2.2.2.2.1, c_abtq.2.2.2.2.2.2.1, ([([((0, .arg 2816, .int 4), true)], (0, .arg 3232, .arg 1340), true), ([((0, .arg 2816, .int 4), false)], (0, .arg 1340, .int 0), true), ([((0, .arg 2816, .int 4), true)], (0, .arg 64000, .int 4), true)], c_abtq.2.2.2.2.2.2.2.2))
theorem ac_b : tbv [] (.op2 .lor (.op2 .lor (.op2 .lshl (.op2 .land (.op2 .lushr (.arg 5121) (.int 8)) (.long 16777215)) (.int 8)) (.long 128)) (.op2 .lshl (.op1 .i2l (.arg 60000)) (.int 32))) (.op2 .lor (.op2 .lor (.op2 .lshl (.op2 .land (.op2 .lshr (.arg 5121) (.int 8)) (.long 16777215)) (.int 8)) (.long 128)) (.op2 .lshl (.op1 .i2l (.arg 60000)) (.int 32))) = true := by decide +kernel
theorem s_abtc0 {X : pX} : SREL X pF pdfl mt_all kR zVP c_abtc0 := SREL_monoK s_abtq
  (fun ρ hK hF hI => by
    have hb : ρ.2.1 60001 = ρ.2.1 5121 := of_decide_eq_true (hF.2 _ List.mem_cons_self)
    have ho : sc X ρ (0, .arg 3360, .int 0) = true := hF.2 _ (List.mem_cons_of_mem _ List.mem_cons_self)
    have e : (sd X ρ (.op2 .lor (.op2 .lor (.op2 .lshl (.op2 .land (.op2 .lushr (.arg 5121) (.int 8)) (.long 16777215)) (.int 8)) (.long 128)) (.op2 .lshl (.op1 .i2l (.arg 60000)) (.int 32)))).2 = (sd X ρ (.op2 .lor (.op2 .lor (.op2 .lshl (.op2 .land (.op2 .lshr (.arg 5121) (.int 8)) (.long 16777215)) (.int 8)) (.long 128)) (.op2 .lshl (.op1 .i2l (.arg 60000)) (.int 32)))).2 := Value.long.inj ((sv_long rfl).symm.trans ((by_v hF.1 ac_b).trans (sv_long rfl)))
    have e0 : (sd X ρ (.op2 .lor (.op2 .lor (.op2 .lshl (.op2 .land (.op2 .lushr (.arg 60001) (.int 8)) (.long 16777215)) (.int 8)) (.long 128)) (.op2 .lshl (.op1 .i2l (.arg 60000)) (.int 32)))).2 = (sd X ρ (.op2 .lor (.op2 .lor (.op2 .lshl (.op2 .land (.op2 .lushr (.arg 5121) (.int 8)) (.long 16777215)) (.int 8)) (.long 128)) (.op2 .lshl (.op1 .i2l (.arg 60000)) (.int 32)))).2 := by
      show ((((s2 .lushr (0, ρ.2.1 60001) _).2 &&& _) <<< _ ||| _) ||| _ : Int64) = ((((s2 .lushr (0, ρ.2.1 5121) _).2 &&& _) <<< _ ||| _) ||| _ : Int64)
      rw [hb]
    refine ⟨⟨hF.1, fun f hf => hF.2 f (List.mem_cons_of_mem _ (List.mem_cons_of_mem _ hf))⟩, fun q hq => ?_⟩
    have no : ∀ {p : Prop}, sc X ρ (0, .arg 3360, .int 0) = false → p := fun h => by rw [ho] at h; cases h
    simp only [c_abtq, List.mem_cons, List.not_mem_nil, or_false] at hq
    rcases hq with rfl | rfl | rfl | rfl | hq
    · exact fun _ => decide_eq_true (e0.trans e)
    · exact fun hg => no (hg _ List.mem_cons_self)
    · exact fun hg => no (hg _ List.mem_cons_self)
    · exact fun hg => no (hg _ List.mem_cons_self)
    · exact hI q (by simpa [c_abtc0] using hq))
  (fun ρ hF hI => ⟨hF, hI⟩)

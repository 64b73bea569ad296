/-! ===== a transfer is broken off: Transfer.abort and refuse ===== -/
noncomputable def c_abtq : sC := ((156, 321, 9), ([tr 58, .arg 60001, .arg 60000], [tr 219, .arg 1308, .arg 60000]), ([2, 3, 4, 5, 6, 7, 9, 10, 11, 12, 13, 15, 49, 50, 51, 42, 43, 56, 58], [237, 238, 239, 240, 241, 296, 219, 228, 229, 290, 291, 292, 293, 220, 221, 260, 261, 312, 313]), [((100, .elem (.arg 2944) (.int 0), .arg 1318), true), ((104, .add (.arg 6625) (.add (.arg 7041) (.elem (.arg 2944) (.int 0))), .arg 1318), true), ((2, .arg 2816, .int 1), false), ((2, .int 7, .arg 2816), false)], ([1290, 1322, 1354, 1386, 1312, 1794, 1318, 1350, 2816, 1340, 6625, 7041, 6753, 6785, 6817, 6849, 6881, 6913, 6945, 6977, 7009, 3360], [2944, 2976, 1408, 1440, 1472, 1504, 1281, 1313, 1345, 1377]), (none, none), [((100, .elem (.arg 2944) (.int 0), .arg 1318), true), ((104, .add (.arg 6625) (.add (.arg 7041) (.elem (.arg 2944) (.int 0))), .arg 1318), true), ((2, .arg 2816, .int 1), false), ((2, .int 7, .arg 2816), false), ((0, .arg 3360, .int 0), true)], ([([((0, .arg 3360, .int 0), true)], (6, .op2 .lor (.op2 .lor (.op2 .lshl (.op2 .land (.op2 .lushr (.arg 60001) (.int 8)) (.long 16777215)) (.int 8)) (.long 128)) (.op2 .lshl (.op1 .i2l (.arg 60000)) (.int 32)), .op2 .lor (.op2 .lor (.op2 .lshl (.op2 .land (.op2 .lshr (.arg 5121) (.int 8)) (.long 16777215)) (.int 8)) (.long 128)) (.op2 .lshl (.op1 .i2l (.arg 60000)) (.int 32))), true), ([((0, .arg 3360, .int 0), false)], (6, .op2 .lor (.op2 .lor (.op2 .lshl (.arg 2145) (.int 8)) (.long 128)) (.op2 .lshl (.op1 .i2l (.arg 60000)) (.int 32)), .op2 .lor (.op2 .lor (.op2 .lshl (.op2 .lor (.op1 .i2l (.elem (.arg 100) (.arg 21856))) (.op2 .lshl (.op1 .i2l (.elem (.arg 102) (.arg 21856))) (.int 16))) (.int 8)) (.long 128)) (.op2 .lshl (.op1 .i2l (.arg 60000)) (.int 32))), true), ([((0, .arg 3360, .int 0), false)], (2, .int (-1), .arg 21856), true), ([((0, .arg 3360, .int 0), false)], (2, .arg 21856, .int 156), true), ([((0, .arg 2816, .int 4), true)], (0, .arg 3232, .arg 1340), true), ([((0, .arg 2816, .int 4), false)], (0, .arg 1340, .int 0), true), ([((0, .arg 2816, .int 4), true)], (0, .arg 64000, .int 4), true)], [([((0, .arg 2816, .int 4), true)], (0, .arg 3232, .arg 1340), true), ([((0, .arg 2816, .int 4), false)], (0, .arg 1340, .int 0), true), ([((0, .arg 2816, .int 4), true)], (0, .arg 64000, .int 4), true)]))
theorem c_abtq_f : cfine zVP 65536 c_abtq = true := by decide +kernel
theorem e_abtq_0 : frun kR [(zVP, c_say0)] (cpl1 zVP c_abtq []) (cpl2 zVP c_abtq []) (cleaf kR zVP c_abtq []) 3000 65536 (isatP (((0, .arg 3360, .int 0), true) :: c_abtq.2.2.2.1) c_abtq.2.2.2.2.2.2.2.1) c_abtq.2.2.2.2.2.2.2.1 (sin0 mt_all c_abtq.1.1 8 c_abtq.2.1.1 (foot zVP c_abtq.2.2.1.1)) (sin0 mt_all c_abtq.1.2.1 8 c_abtq.2.1.2 (foot zVP c_abtq.2.2.1.2)) = true := by decide +kernel
theorem e_abtq_1 : frun kR [(zVP, c_say0)] (cpl1 zVP c_abtq []) (cpl2 zVP c_abtq []) (cleaf kR zVP c_abtq []) 3000 65536 (isatP (((0, .arg 3360, .int 0), false) :: c_abtq.2.2.2.1) c_abtq.2.2.2.2.2.2.2.1) c_abtq.2.2.2.2.2.2.2.1 (sin0 mt_all c_abtq.1.1 8 c_abtq.2.1.1 (foot zVP c_abtq.2.2.1.1)) (sin0 mt_all c_abtq.1.2.1 8 c_abtq.2.1.2 (foot zVP c_abtq.2.2.1.2)) = true := by decide +kernel
theorem s_abtq {X : pX} : SREL X pF pdfl mt_all kR zVP c_abtq := SREL_QC kR_x kR_0 (Cs := [(zVP, c_say0)]) (fun C hC => by
    simp only [List.mem_cons, List.not_mem_nil, or_false] at hC
    rw [hC]; exact s_say0) (d := 8) rfl c_abtq_f (Q := []) (fun ρ0 hv => fun q hq => by cases hq) (QC_split (0, .arg 3360, .int 0) (QC_run 3000 e_abtq_0) (QC_run 3000 e_abtq_1))
theorem SREL_monoK {X : pX} {K : sK} {Z : sH} {C : sC} {F' G' : sFs} {I' J' : sI} (h : SREL X pF pdfl mt_all K Z C) (hp : ∀ ρ : sR, kok X ρ K → fok X ρ F' → iok X ρ I' → fok X ρ C.2.2.2.1 ∧ iok X ρ C.2.2.2.2.2.2.2.1) (hq : ∀ ρ : sR, fok X ρ C.2.2.2.2.2.2.1 → iok X ρ C.2.2.2.2.2.2.2.2 → fok X ρ G' ∧ iok X ρ J') : SREL X pF pdfl mt_all K Z (C.1, C.2.1, C.2.2.1, F', C.2.2.2.2.1, C.2.2.2.2.2.1, G', (I', J')) := by
  intro ρ hK hF hI
  obtain ⟨h1, h2⟩ := hp ρ hK hF hI
  obtain ⟨ρ', k1, k2, k3, k4⟩ := h ρ hK h1 h2
  obtain ⟨g1, g2⟩ := hq ρ' k2 k3
  exact ⟨ρ', k1, g1, g2, k4⟩
theorem bk_len : bkw.length = 156 := by decide +kernel
theorem bk_all : (List.range 156).all (fun p => decide (Int64.ofInt (bkw.getD p 0) = (Int32.ofInt (ztab100.getD p 0)).toInt64 ||| ((Int32.ofInt (ztab102.getD p 0)).toInt64 <<< ((16 : Int32).toInt64 &&& 63)))) = true := by decide +kernel
theorem wh_eq {X : pX} {ρ : sR} (hK : kok X ρ kR) {w p : Nat} (hw : w % 2 = 1) (h : sc X ρ (105, .arg w, .arg p) = true) (hp : p % 2 = 0) : ρ.2.1 w = (ρ.2.2.1 100 (ρ.1 p).toNatClampNeg).toInt64 ||| ((ρ.2.2.1 102 (ρ.1 p).toNatClampNeg).toInt64 <<< ((16 : Int32).toInt64 &&& 63)) ∧ 0 ≤ (ρ.1 p).toInt ∧ (ρ.1 p).toInt < 156 := by
  have sw : sk (.arg w : sT) = 1 := by simp only [sk]; exact hw
  have sp : ¬ sk (.arg p : sT) = 1 := by simp only [sk]; omega
  have h : (decide (0 ≤ sn X ρ (.arg p)) && decide (bkw[(sn X ρ (.arg p)).toNat]? = some (if sk (.arg w : sT) = 1 then (sd X ρ (.arg w)).2.toInt else (sd X ρ (.arg w)).1.toInt))) = true := h
  simp only [sn, if_neg sp, if_pos sw, Bool.and_eq_true, decide_eq_true_eq] at h
  have h0 : 0 ≤ (ρ.1 p).toInt := h.1
  have h1 : bkw[(ρ.1 p).toInt.toNat]? = some (ρ.2.1 w).toInt := h.2
  obtain ⟨hl, h2⟩ := List.getElem?_eq_some_iff.mp h1
  rw [bk_len] at hl
  have h3 := of_decide_eq_true (List.all_eq_true.mp bk_all (ρ.1 p).toInt.toNat (List.mem_range.mpr hl))
  rw [List.getD_eq_getElem?_getD, h1, Option.getD_some, Int64.ofInt_toInt] at h3
  have e1 := (hK.2.2.1 100 ztab100 rfl (ρ.1 p).toInt.toNat).1
  have e2 := (hK.2.2.1 102 ztab102 rfl (ρ.1 p).toInt.toNat).1
  refine ⟨?_, h0, by omega⟩
  rw [s_nat, e1, e2]
  exact h3
theorem ab_w {X : pX} {ρ : sR} (hK : kok X ρ kR) (h : sc X ρ (105, .arg 2145, .arg 21856) = true) : sc X ρ (6, .op2 .lor (.op2 .lor (.op2 .lshl (.arg 2145) (.int 8)) (.long 128)) (.op2 .lshl (.op1 .i2l (.arg 60000)) (.int 32)), .op2 .lor (.op2 .lor (.op2 .lshl (.op2 .lor (.op1 .i2l (.elem (.arg 100) (.arg 21856))) (.op2 .lshl (.op1 .i2l (.elem (.arg 102) (.arg 21856))) (.int 16))) (.int 8)) (.long 128)) (.op2 .lshl (.op1 .i2l (.arg 60000)) (.int 32))) = true ∧ sc X ρ (2, .int (-1), .arg 21856) = true ∧ sc X ρ (2, .arg 21856, .int 156) = true := by
  obtain ⟨e, h0, h1⟩ := wh_eq hK (by decide) h (by decide)
  have z1 : (-1 : Int32).toInt = -1 := rfl
  have z2 : (156 : Int32).toInt = 156 := rfl
  refine ⟨decide_eq_true ?_, decide_eq_true (Int32.lt_iff_toInt_lt.mpr (show (-1 : Int32).toInt < (ρ.1 21856).toInt by rw [z1]; omega)), decide_eq_true (Int32.lt_iff_toInt_lt.mpr (show (ρ.1 21856).toInt < (156 : Int32).toInt by rw [z2]; exact h1))⟩
  show (ρ.2.1 2145 <<< ((8 : Int32).toInt64 &&& 63) ||| 128) ||| _ = (((ρ.2.2.1 100 (ρ.1 21856).toNatClampNeg).toInt64 ||| ((ρ.2.2.1 102 (ρ.1 21856).toNatClampNeg).toInt64 <<< ((16 : Int32).toInt64 &&& 63))) <<< ((8 : Int32).toInt64 &&& 63) ||| 128) ||| _
  rw [e]
noncomputable def c_abto0 : sC := (c_abtq.1, c_abtq.2.1, c_abtq.2.2.1, [((105, .arg 2145, .arg 21856), true), ((0, .arg 3360, .int 0), false), ((100, .elem (.arg 2944) (.int 0), .arg 1318), true), ((104, .add (.arg 6625) (.add (.arg 7041) (.elem (.arg 2944) (.int 0))), .arg 1318), true), ((2, .arg 2816, .int 1), false), ((2, .int 7, .arg 2816), false)], c_abtq.2.2.2.2.1, c_abtq.2.2.2.2.2.1, c_abtq.2.2.2.2.2.2.1, ([([((0, .arg 2816, .int 4), true)], (0, .arg 3232, .arg 1340), true), ([((0, .arg 2816, .int 4), false)], (0, .arg 1340, .int 0), true), ([((0, .arg 2816, .int 4), true)], (0, .arg 64000, .int 4), true)], c_abtq.2.2.2.2.2.2.2.2))
theorem s_abto0 {X : pX} : SREL X pF pdfl mt_all kR zVP c_abto0 := SREL_monoK s_abtq
  (fun ρ hK hF hI => by
    obtain ⟨w1, w2, w3⟩ := ab_w hK (hF.2 _ List.mem_cons_self)
    have ho : sc X ρ (0, .arg 3360, .int 0) = false := hF.2 _ (List.mem_cons_of_mem _ List.mem_cons_self)
    refine ⟨⟨hF.1, fun f hf => hF.2 f (List.mem_cons_of_mem _ (List.mem_cons_of_mem _ hf))⟩, fun q hq => ?_⟩
    simp only [c_abtq, List.mem_cons, List.not_mem_nil, or_false] at hq
    rcases hq with rfl | rfl | rfl | rfl | hq
    · intro hg
      have := hg _ List.mem_cons_self
      dsimp only at this
      rw [ho] at this
      cases this
    · exact fun _ => w1
    · exact fun _ => w2
    · exact fun _ => w3
    · exact hI q (by simpa [c_abto0] using hq))
  (fun ρ hF hI => ⟨hF, hI⟩)

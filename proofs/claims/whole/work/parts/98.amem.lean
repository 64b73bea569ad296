set_option maxRecDepth 20000
/-! ===== bytes of a number; answers by other words ===== -/
theorem by_0 : tbv [] (.op2 .iand (.op1 .l2i (.op2 .lushr (.arg 5121) (.int 0))) (.int 255)) (.op1 .l2i (.op2 .land (.op2 .lshr (.arg 5121) (.int 0)) (.long 255))) = true := by decide +kernel
theorem vk_up {X : pX} {ρ : sR} (hv : vok X ρ) (x : Int64) : vok X (ρ.1, fun i => if i = 5121 then x else ρ.2.1 i, ρ.2.2) := by
  have key : ∀ i : Nat, sn X (ρ.1, fun i => if i = 5121 then x else ρ.2.1 i, ρ.2.2) (.arg i) = sn X ρ (.arg i) ∨ i = 5121 := by
    intro i
    by_cases h : i = 5121
    · exact .inr h
    · refine .inl ?_
      show (if i % 2 = 1 then (if i = 5121 then x else ρ.2.1 i).toInt else (ρ.1 i).toInt) = (if i % 2 = 1 then (ρ.2.1 i).toInt else (ρ.1 i).toInt)
      rw [if_neg h]
  refine ⟨fun i r hr => ?_, fun a t r hr => ?_⟩
  · rcases key i with h | h
    · rw [h]; exact hv.1 i r hr
    · subst h; cases hr
  · exact hv.2 a (.int (sd X (ρ.1, fun i => if i = 5121 then x else ρ.2.1 i, ρ.2.2) t).1) r hr
/-- a byte of a number, both ways -/
theorem bx_k {X : pX} {ρ : sR} (hv : vok X ρ) {k : Int32} (h : tbv [] (.op2 .iand (.op1 .l2i (.op2 .lushr (.arg 5121) (.int k))) (.int 255)) (.op1 .l2i (.op2 .land (.op2 .lshr (.arg 5121) (.int k)) (.long 255))) = true) {V W : sT} (e : (sd X ρ V).2 = (sd X ρ W).2) : sv X ρ (.op2 .iand (.op1 .l2i (.op2 .lushr V (.int k))) (.int 255)) = sv X ρ (.op1 .l2i (.op2 .land (.op2 .lshr W (.int k)) (.long 255))) := by
  have q := by_v (X := X) (vk_up hv (sd X ρ V).2) h
  rw [sv_int rfl, sv_int rfl] at q ⊢
  have q := Value.int.inj q
  refine congrArg Value.int ?_
  show (s2 .iand (s1 .l2i (s2 .lushr (sd X ρ V) (k, 0))) (255, 0)).1 = (s1 .l2i (s2 .land (s2 .lshr (sd X ρ W) (k, 0)) (0, 255))).1
  have q : (s2 .iand (s1 .l2i (s2 .lushr ((0 : Int32), if (5121 : Nat) = 5121 then (sd X ρ V).2 else ρ.2.1 5121) (k, 0))) (255, 0)).1 = (s1 .l2i (s2 .land (s2 .lshr ((0 : Int32), if (5121 : Nat) = 5121 then (sd X ρ V).2 else ρ.2.1 5121) (k, 0)) (0, 255))).1 := q
  rw [if_pos rfl] at q
  exact q.trans (by show (s1 .l2i (s2 .land (s2 .lshr ((0 : Int32), (sd X ρ V).2) (k, 0)) (0, 255))).1 = _; rw [e]; rfl)
theorem SREL_ans {X : pX} {K : sK} {Z : sH} {C : sC} {F' G' : sFs} {r1 r2 : Option sT} (h : SREL X pF pdfl mt_all K Z C) (hp : ∀ ρ : sR, fok X ρ F' → fok X ρ C.2.2.2.1) (ha : ∀ ρ ρ' : sR, fok X ρ F' → ((∀ i, i ∉ C.2.2.2.2.1.1 → ρ'.1 i = ρ.1 i ∧ ρ'.2.1 i = ρ.2.1 i) ∧ ∀ a, a ∉ C.2.2.2.2.1.2 → ∀ j, bden X ρ' (.arg a) j = bden X ρ (.arg a) j) → fok X ρ' C.2.2.2.2.2.2.1 → (r1.map (sv X ρ') = C.2.2.2.2.2.1.1.map (sv X ρ') ∧ r2.map (sv X ρ') = C.2.2.2.2.2.1.2.map (sv X ρ')) ∧ fok X ρ' G') : SREL X pF pdfl mt_all K Z (C.1, C.2.1, C.2.2.1, F', C.2.2.2.2.1, (r1, r2), G', C.2.2.2.2.2.2.2) := by
  intro ρ hK hF hI
  obtain ⟨ρ', h1, h2, h3, h4, h5⟩ := h ρ hK (hp ρ hF) hI
  obtain ⟨⟨a1, a2⟩, a3⟩ := ha ρ ρ' hF h1 h2
  refine ⟨ρ', h1, a3, h3, fun B G hR => ?_, fun B G hR => ?_⟩
  · show ∃ G' : pH, CALL X pF pdfl mt_all C.1.2.2 C.1.1 (dS X ρ C.2.1.1) G B.2.2 (.inl (r1.map (sv X ρ')), G', B.2.2) ∧ _
    rw [a1]
    exact h4 B G hR
  · show ∃ G' : pH, CALL X pF pdfl mt_all C.1.2.2 C.1.2.1 (dS X ρ C.2.1.2) G B.2.2 (.inl (r2.map (sv X ρ')), G', B.2.2) ∧ _
    rw [a2]
    exact h5 B G hR
/-- the register, in the entry's own words -/
noncomputable def c_regl : sC := (c_regm0.1, c_regm0.2.1, c_regm0.2.2.1, c_regm0.2.2.2.1, c_regm0.2.2.2.2.1, (some (.long 0), some (.op1 .l2i (.arg 60033))), [], c_regm0.2.2.2.2.2.2.2)
theorem s_regl {X : pX} : SREL X pF pdfl mt_all kR zVP c_regl := SREL_ans s_regm0 (fun ρ hF => hF) (fun ρ ρ' hF hA hG => ⟨⟨rfl, by
  have e : (ρ'.1 60096).toInt64 = ρ'.2.1 60033 := of_decide_eq_true (hG.2 _ List.mem_cons_self)
  show some (sv X ρ' (.op1 .l2i (.arg 60033))) = some (sv X ρ' (.arg 60096))
  rw [sv_int rfl, sv_int rfl]
  show some (Value.int (ρ'.2.1 60033).toInt32) = some (Value.int (ρ'.1 60096))
  rw [← e, Int32.toInt32_toInt64]⟩, ⟨hG.1, fun f hf => by cases hf⟩⟩)
theorem bx_m {X : pX} {ρ : sR} (hv : vok X ρ) {k : Int32} (h : tbv [] (.op2 .iand (.op1 .l2i (.op2 .lushr (.arg 5121) (.int k))) (.int 255)) (.op1 .l2i (.op2 .land (.op2 .lshr (.arg 5121) (.int k)) (.long 255))) = true) {V : sT} : sc X ρ (2, .op1 .l2i (.op2 .land (.op2 .lshr V (.int k)) (.long 255)), .int 0) = false ∧ sc X ρ (2, .int 255, .op1 .l2i (.op2 .land (.op2 .lshr V (.int k)) (.long 255))) = false := by
  have e := bx_k hv h (V := V) (W := V) rfl
  rw [sv_int rfl, sv_int rfl] at e
  have e := Value.int.inj e
  have r := by_rng (x := (sd X ρ (.op1 .l2i (.op2 .lushr V (.int k)))).1)
  have e : (sd X ρ (.op1 .l2i (.op2 .lushr V (.int k)))).1 &&& 255 = (sd X ρ (.op1 .l2i (.op2 .land (.op2 .lshr V (.int k)) (.long 255)))).1 := e
  rw [e] at r
  exact ⟨di_lf (x := (sd X ρ (.op1 .l2i (.op2 .land (.op2 .lshr V (.int k)) (.long 255)))).1) (y := 0) r.1, di_lf (x := 255) (y := (sd X ρ (.op1 .l2i (.op2 .land (.op2 .lshr V (.int k)) (.long 255)))).1) r.2⟩
theorem ar1_le (c : Int32) : areg1 c ≤ 255 := by unfold areg1; split; · decide
                                                 split; · decide
                                                 split; · decide
                                                 decide
theorem areg_le (f : Nat → Int32) (n : Int) : areg f n ≤ 255 := by
  unfold areg
  have key : ∀ (l : List Nat) (r : Nat), r < 2 ^ 8 → l.foldl (fun r i => r ||| areg1 (f i)) r < 2 ^ 8 := by
    intro l
    induction l with
    | nil => exact fun r h => h
    | cons x l ih => exact fun r h => ih _ (Nat.or_lt_two_pow h (by have := ar1_le (f x); omega))
  have := key (List.range n.toNat) 0 (by decide)
  omega
theorem rg_v {X : pX} {ρ : sR} (h : sc X ρ (104, .add (.arg 6625) (.add (.arg 7041) (.elem (.arg 2944) (.int 0))), .arg 1318) = true) : (sd X ρ (.arg 6625)).2 = (sd X ρ (.op1 .i2l (.op1 .l2i (.arg 6625)))).2 := by
  have h : (decide ((ρ.2.1 6625).toInt = (areg (ρ.2.2.1 2944) (ρ.1 1318).toInt : Nat)) && decide ((ρ.2.1 7041).toInt = alast (ρ.2.2.1 2944) (ρ.1 1318).toInt)) = true := h
  rw [Bool.and_eq_true] at h
  have h := of_decide_eq_true h.1
  have b : areg (ρ.2.2.1 2944) (ρ.1 1318).toInt ≤ 255 := areg_le _ _
  show ρ.2.1 6625 = (ρ.2.1 6625).toInt32.toInt64
  exact (l_back (by omega) (by omega)).symm
theorem in_v {X : pX} {ρ : sR} (hv : vok X ρ) : (sd X ρ (.op1 .i2l (.add (.arg 1296) (.int 65536)))).2 = (sd X ρ (.op2 .ladd (.op1 .i2l (.arg 1296)) (.long 65536))).2 := by
  have h1 : 0 ≤ (ρ.1 1296).toInt ∧ (ρ.1 1296).toInt ≤ 65535 := hv.1 1296 (0, 65535) rfl
  have z : (65536 : Int32).toInt = 65536 := rfl
  have y : (65536 : Int64).toInt = 65536 := rfl
  show (ρ.1 1296 + 65536).toInt64 = (ρ.1 1296).toInt64 + 65536
  apply Int64.toInt_inj.mp
  rw [Int32.toInt_toInt64, s_add (by rw [z]; omega) (by rw [z]; omega), z, l_add (by rw [Int32.toInt_toInt64, y]; omega) (by rw [Int32.toInt_toInt64, y]; omega), Int32.toInt_toInt64, y]
theorem bl_n1 {x y z : Int32} (h : ¬ y = z) : ¬ x + y = x + z := fun q => h (by grind)
theorem bl_n2 {x y z : Int32} (h : ¬ y = z) : ¬ y + x = x + z := fun q => h (by grind)
noncomputable def ur_g : List Nat := [3, 0, 0, 0, 0, 0, 0, 0, 0, 0, 0, 3, 3, 0, 1, 3, 1, 3, 3, 2, 1, 3, 3, 2, 1, 3, 3, 3, 3, 1, 1, 1, 3, 3, 1, 3, 1, 2, 1, 3, 1, 2, 1, 3, 1, 2, 1, 3, 1, 2, 1, 3, 3, 3, 3, 1, 3, 3, 3, 3, 1, 3, 3, 3, 3, 1, 3, 3, 3, 3, 1, 3, 1, 2, 2, 1, 3, 1, 2, 2, 1, 3, 1, 2, 2, 1, 3, 1, 2, 2, 1, 3, 3, 3, 3, 1, 3, 3, 3, 3, 1, 3, 3, 3, 3, 1, 3, 3, 3, 3, 0, 0, 0, 1, 0, 2, 0, 5, 5, 5, 5, 5, 4, 0, 0, 0, 3, 2, 3, 2, 0, 0, 6, 6, 1, 6, 6, 3, 3, 3, 3, 3, 4, 1, 3, 3, 3, 2, 0, 0, 0, 0, 1, 3, 6, 3]
noncomputable def ur_t : List (Int32 × Int32) := [(0, 0), (0, 0), (1, 1), (2, 2), (3, 3), (4, 4), (5, 5)]
theorem ur_ok : (List.range 156).all (fun p => (decide (ur_g.getD p 0 = 0) && ([1, 2, 3, 4, 5, 6, 7, 8, 9, 10, 13, 110, 111, 112, 114, 116, 123, 124, 125, 130, 131, 148, 149, 150, 151] : List Nat).contains p) || (decide (0 < ur_g.getD p 0) && (decide (ur_g.getD p 0 < 7) && (decide (pt_BOOK.getD (5 * p + 1) 0 &&& 15 = (ur_t.getD (ur_g.getD p 0) (0, 0)).1) && (decide (Int32.ofInt (ztab104.getD p 0) = (ur_t.getD (ur_g.getD p 0) (0, 0)).2) && (!(([1, 2, 3, 4, 5, 6, 7, 8, 9, 10, 13, 110, 111, 112, 114, 116, 123, 124, 125, 130, 131, 148, 149, 150, 151] : List Nat).contains p) && ([4097, 24641, 24674, 24676, 24683, 24684, 24761, 24829] : List Int).all (fun x => !(decide (Int32.ofInt (ztab100.getD p 0) = Int32.ofInt x))))))))) = true := by decide +kernel
theorem ur_r : (List.range 156).all (fun p => !(decide (pt_BOOK.getD (5 * p + 1) 0 &&& 16 = 0))) = true := by decide +kernel
theorem vi_up {X : pX} {ρ : sR} (hv : vok X ρ) (x : Int32) : vok X (fun i => if i = 60064 then x else ρ.1 i, ρ.2) := by
  have key : ∀ i : Nat, sn X (fun i => if i = 60064 then x else ρ.1 i, ρ.2) (.arg i) = sn X ρ (.arg i) ∨ i = 60064 := by
    intro i
    by_cases h : i = 60064
    · exact .inr h
    · refine .inl ?_
      show (if i % 2 = 1 then (ρ.2.1 i).toInt else (if i = 60064 then x else ρ.1 i).toInt) = (if i % 2 = 1 then (ρ.2.1 i).toInt else (ρ.1 i).toInt)
      rw [if_neg h]
  refine ⟨fun i r hr => ?_, fun a t r hr => ?_⟩
  · rcases key i with h | h
    · rw [h]; exact hv.1 i r hr
    · subst h; cases hr
  · exact hv.2 a (.int (sd X (fun i => if i = 60064 then x else ρ.1 i, ρ.2) t).1) r hr
theorem tr_0 : tbv [] (.op2 .iand (.op1 .l2i (.op2 .lushr (.op1 .i2l (.arg 60064)) (.int 0))) (.int 255)) (.op2 .iand (.op2 .ishr (.arg 60064) (.int 0)) (.int 255)) = true := by decide +kernel
theorem tr_1 : tbv [] (.op2 .iand (.op1 .l2i (.op2 .lushr (.op1 .i2l (.arg 60064)) (.int 8))) (.int 255)) (.op2 .iand (.op2 .ishr (.arg 60064) (.int 8)) (.int 255)) = true := by decide +kernel
theorem tr_2 : tbv [] (.op2 .iand (.op1 .l2i (.op2 .lushr (.op1 .i2l (.arg 60064)) (.int 16))) (.int 255)) (.op2 .iand (.op2 .ishr (.arg 60064) (.int 16)) (.int 255)) = true := by decide +kernel
theorem tr_3 : tbv [] (.op2 .iand (.op1 .l2i (.op2 .lushr (.op1 .i2l (.arg 60064)) (.int 24))) (.int 255)) (.op2 .iand (.op2 .ishr (.arg 60064) (.int 24)) (.int 255)) = true := by decide +kernel

theorem tr_k {X : pX} {ρ : sR} (hv : vok X ρ) {k : Int32} (h : tbv [] (.op2 .iand (.op1 .l2i (.op2 .lushr (.op1 .i2l (.arg 60064)) (.int k))) (.int 255)) (.op2 .iand (.op2 .ishr (.arg 60064) (.int k)) (.int 255)) = true) (x : Int32) : (s2 .iand (s1 .l2i (s2 .lushr (s1 .i2l (x, 0)) (k, 0))) (255, 0)).1 = (s2 .iand (s2 .ishr (x, 0) (k, 0)) (255, 0)).1 := by
  have q := by_v (X := X) (vi_up hv x) h
  rw [sv_int rfl, sv_int rfl] at q
  have q := Value.int.inj q
  have q : (s2 .iand (s1 .l2i (s2 .lushr (s1 .i2l ((if (60064 : Nat) = 60064 then x else ρ.1 60064), (0 : Int64))) (k, 0))) (255, 0)).1 = (s2 .iand (s2 .ishr ((if (60064 : Nat) = 60064 then x else ρ.1 60064), (0 : Int64)) (k, 0)) (255, 0)).1 := q
  rw [if_pos rfl] at q
  exact q
theorem op_rm {X : pX} {ρ : sR} : (0 ≤ (sd X ρ (.op1 .l2i (.op2 .land (.op2 .lshr (.arg 5121) (.int 8)) (.long 65535)))).1.toInt ∧ (sd X ρ (.op1 .l2i (.op2 .land (.op2 .lshr (.arg 5121) (.int 8)) (.long 65535)))).1.toInt ≤ 65535) ∧ 0 ≤ (sd X ρ (.op1 .l2i (.op2 .land (.op2 .lshr (.arg 5121) (.int 24)) (.long 255)))).1.toInt ∧ (sd X ρ (.op1 .l2i (.op2 .land (.op2 .lshr (.arg 5121) (.int 24)) (.long 255)))).1.toInt ≤ 255 := by
  have key : ∀ (y m : Int64), 0 ≤ m.toInt → m.toInt ≤ 65535 → 0 ≤ (y &&& m).toInt32.toInt ∧ (y &&& m).toInt32.toInt ≤ m.toInt := by
    intro y m h0 h1
    obtain ⟨a1, a2⟩ := l_and (x := y) (m := m) h0
    have e : (y &&& m).toInt32.toInt = (y &&& m).toInt := by
      have := l_back (x := y &&& m) (by omega) (by omega)
      have := congrArg Int64.toInt this
      rw [Int32.toInt_toInt64] at this
      exact this
    omega
  exact ⟨key _ 65535 (by decide) (by decide), key _ 255 (by decide) (by decide)⟩
theorem op_pl {X : pX} {ρ : sR} (hK : kok X ρ kR) (h : sc X ρ (109, .add (.op1 .l2i (.op2 .land (.op2 .lshr (.arg 5121) (.int 8)) (.long 65535))) (.op1 .l2i (.op2 .land (.op2 .lshr (.arg 5121) (.int 24)) (.long 255))), .arg 21856) = true) (h0 : 0 ≤ (ρ.1 21856).toInt) : (sd X ρ (.elem (.arg 100) (.arg 21856))).1 = (sd X ρ (.op1 .l2i (.op2 .land (.op2 .lshr (.arg 5121) (.int 8)) (.long 65535)))).1 ∧ (sd X ρ (.elem (.arg 102) (.arg 21856))).1 = (sd X ρ (.op1 .l2i (.op2 .land (.op2 .lshr (.arg 5121) (.int 24)) (.long 255)))).1 := by
  have g2 : (ρ.1 21856).toInt = aslot (sd X ρ (.op1 .l2i (.op2 .land (.op2 .lshr (.arg 5121) (.int 8)) (.long 65535)))).1.toInt (sd X ρ (.op1 .l2i (.op2 .land (.op2 .lshr (.arg 5121) (.int 24)) (.long 255)))).1.toInt := of_decide_eq_true h
  rcases as_cases g2 with q | q | ⟨p, hp, hn, hb⟩
  · omega
  · omega
  · have m2 := op_tab hK hp (s := 21856) rfl hn
    have t := List.all_eq_true.mp er_b p (List.mem_range.mpr hp)
    simp only [Bool.and_eq_true, decide_eq_true_eq] at t
    obtain ⟨t1, t2, t3, t4, t5, -⟩ := t
    have r1 := Int32.le_toInt (sd X ρ (.op1 .l2i (.op2 .land (.op2 .lshr (.arg 5121) (.int 8)) (.long 65535)))).1
    have r := op_rm (X := X) (ρ := ρ)
    have a1 : (sd X ρ (.op1 .l2i (.op2 .land (.op2 .lshr (.arg 5121) (.int 8)) (.long 65535)))).1.toInt = ztab100.getD p 0 := by omega
    have a2 : (sd X ρ (.op1 .l2i (.op2 .land (.op2 .lshr (.arg 5121) (.int 24)) (.long 255)))).1.toInt = ztab102.getD p 0 := by omega
    refine ⟨?_, ?_⟩
    · show ρ.2.2.1 100 (ρ.1 21856).toNatClampNeg = _
      rw [m2.2.1, ← a1, Int32.ofInt_toInt]
    · show ρ.2.2.1 102 (ρ.1 21856).toNatClampNeg = _
      rw [m2.2.2.1, ← a2, Int32.ofInt_toInt]
theorem bg_0 : tbv [] (.op2 .lor (.op2 .lor (.op2 .lshl (.op2 .land (.op2 .lushr (.arg 5121) (.int 8)) (.long 16777215)) (.int 8)) (.long 65)) (.op2 .lshl (.op1 .i2l (.arg 1306)) (.int 32))) (.op2 .lor (.op2 .lor (.op2 .lor (.op2 .lshl (.op1 .i2l (.op1 .l2i (.op2 .land (.op2 .lshr (.arg 5121) (.int 8)) (.long 65535)))) (.int 8)) (.long 65)) (.op2 .lshl (.op1 .i2l (.op1 .l2i (.op2 .land (.op2 .lshr (.arg 5121) (.int 24)) (.long 255)))) (.int 24))) (.op2 .lshl (.op1 .i2l (.arg 1306)) (.int 32))) = true := by decide +kernel
theorem bg_e {X : pX} {ρ : sR} (hv : vok X ρ) (e : ρ.1 1306 = ρ.1 22112) : sc X ρ (6, .op2 .lor (.op2 .lor (.op2 .lshl (.op2 .land (.op2 .lushr (.arg 5121) (.int 8)) (.long 16777215)) (.int 8)) (.long 65)) (.op2 .lshl (.op1 .i2l (.arg 1306)) (.int 32)), .op2 .lor (.op2 .lor (.op2 .lor (.op2 .lshl (.op1 .i2l (.op1 .l2i (.op2 .land (.op2 .lshr (.arg 5121) (.int 8)) (.long 65535)))) (.int 8)) (.long 65)) (.op2 .lshl (.op1 .i2l (.op1 .l2i (.op2 .land (.op2 .lshr (.arg 5121) (.int 24)) (.long 255)))) (.int 24))) (.op2 .lshl (.op1 .i2l (.arg 22112)) (.int 32))) = true := by
  have q := by_v hv bg_0
  rw [sv_long rfl, sv_long rfl] at q
  have q := Value.long.inj q
  refine decide_eq_true (q.trans ?_)
  show (s2 .lor _ (s2 .lshl (s1 .i2l (sd X ρ (.arg 1306))) _)).2 = (s2 .lor _ (s2 .lshl (s1 .i2l (sd X ρ (.arg 22112))) _)).2
  show (s2 .lor _ (s2 .lshl (s1 .i2l (ρ.1 1306, _)) _)).2 = (s2 .lor _ (s2 .lshl (s1 .i2l (ρ.1 22112, _)) _)).2
  rw [e]
  rfl

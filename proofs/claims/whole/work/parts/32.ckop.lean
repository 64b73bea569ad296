/-! ===== each instruction is held against the pools; what that gives ===== -/
theorem ok_M : (List.range 17).all (fun on => (mpl on).all (ckM on)) = true := by decide +kernel
theorem ok_W0 : (List.range 29).all (fun i => ckWs (0 + i)) = true := by decide +kernel
theorem ok_W1 : (List.range 29).all (fun i => ckWs (29 + i)) = true := by decide +kernel
theorem ok_W2 : (List.range 29).all (fun i => ckWs (58 + i)) = true := by decide +kernel
theorem ok_W3 : (List.range 29).all (fun i => ckWs (87 + i)) = true := by decide +kernel
theorem ok_W4 : (List.range 29).all (fun i => ckWs (116 + i)) = true := by decide +kernel
theorem ok_W5 : (List.range 29).all (fun i => ckWs (145 + i)) = true := by decide +kernel
theorem ok_W6 : (List.range 29).all (fun i => ckWs (174 + i)) = true := by decide +kernel
theorem ok_W7 : (List.range 29).all (fun i => ckWs (203 + i)) = true := by decide +kernel
theorem ok_W8 : (List.range 29).all (fun i => ckWs (232 + i)) = true := by decide +kernel
theorem ok_W9 : (List.range 29).all (fun i => ckWs (261 + i)) = true := by decide +kernel
theorem ok_W10 : (List.range 29).all (fun i => ckWs (290 + i)) = true := by decide +kernel
theorem ok_W11 : (List.range 29).all (fun i => ckWs (319 + i)) = true := by decide +kernel
theorem ok_W12 : (List.range 29).all (fun i => ckWs (348 + i)) = true := by decide +kernel
theorem ok_W13 : (List.range 29).all (fun i => ckWs (377 + i)) = true := by decide +kernel
theorem ok_W14 : (List.range 29).all (fun i => ckWs (406 + i)) = true := by decide +kernel
theorem ok_W15 : (List.range 29).all (fun i => ckWs (435 + i)) = true := by decide +kernel
theorem ok_W {y : Nat} (h : y < 464) : ckWs y = true := by
  by_cases h0 : y < 29
  · have h9 := List.all_eq_true.mp ok_W0 (y - 0) (List.mem_range.mpr (by omega))
    have e9 : 0 + (y - 0) = y := by omega
    rw [e9] at h9; exact h9
  by_cases h1 : y < 58
  · have h9 := List.all_eq_true.mp ok_W1 (y - 29) (List.mem_range.mpr (by omega))
    have e9 : 29 + (y - 29) = y := by omega
    rw [e9] at h9; exact h9
  by_cases h2 : y < 87
  · have h9 := List.all_eq_true.mp ok_W2 (y - 58) (List.mem_range.mpr (by omega))
    have e9 : 58 + (y - 58) = y := by omega
    rw [e9] at h9; exact h9
  by_cases h3 : y < 116
  · have h9 := List.all_eq_true.mp ok_W3 (y - 87) (List.mem_range.mpr (by omega))
    have e9 : 87 + (y - 87) = y := by omega
    rw [e9] at h9; exact h9
  by_cases h4 : y < 145
  · have h9 := List.all_eq_true.mp ok_W4 (y - 116) (List.mem_range.mpr (by omega))
    have e9 : 116 + (y - 116) = y := by omega
    rw [e9] at h9; exact h9
  by_cases h5 : y < 174
  · have h9 := List.all_eq_true.mp ok_W5 (y - 145) (List.mem_range.mpr (by omega))
    have e9 : 145 + (y - 145) = y := by omega
    rw [e9] at h9; exact h9
  by_cases h6 : y < 203
  · have h9 := List.all_eq_true.mp ok_W6 (y - 174) (List.mem_range.mpr (by omega))
    have e9 : 174 + (y - 174) = y := by omega
    rw [e9] at h9; exact h9
  by_cases h7 : y < 232
  · have h9 := List.all_eq_true.mp ok_W7 (y - 203) (List.mem_range.mpr (by omega))
    have e9 : 203 + (y - 203) = y := by omega
    rw [e9] at h9; exact h9
  by_cases h8 : y < 261
  · have h9 := List.all_eq_true.mp ok_W8 (y - 232) (List.mem_range.mpr (by omega))
    have e9 : 232 + (y - 232) = y := by omega
    rw [e9] at h9; exact h9
  by_cases h9 : y < 290
  · have h9 := List.all_eq_true.mp ok_W9 (y - 261) (List.mem_range.mpr (by omega))
    have e9 : 261 + (y - 261) = y := by omega
    rw [e9] at h9; exact h9
  by_cases h10 : y < 319
  · have h9 := List.all_eq_true.mp ok_W10 (y - 290) (List.mem_range.mpr (by omega))
    have e9 : 290 + (y - 290) = y := by omega
    rw [e9] at h9; exact h9
  by_cases h11 : y < 348
  · have h9 := List.all_eq_true.mp ok_W11 (y - 319) (List.mem_range.mpr (by omega))
    have e9 : 319 + (y - 319) = y := by omega
    rw [e9] at h9; exact h9
  by_cases h12 : y < 377
  · have h9 := List.all_eq_true.mp ok_W12 (y - 348) (List.mem_range.mpr (by omega))
    have e9 : 348 + (y - 348) = y := by omega
    rw [e9] at h9; exact h9
  by_cases h13 : y < 406
  · have h9 := List.all_eq_true.mp ok_W13 (y - 377) (List.mem_range.mpr (by omega))
    have e9 : 377 + (y - 377) = y := by omega
    rw [e9] at h9; exact h9
  by_cases h14 : y < 435
  · have h9 := List.all_eq_true.mp ok_W14 (y - 406) (List.mem_range.mpr (by omega))
    have e9 : 406 + (y - 406) = y := by omega
    rw [e9] at h9; exact h9
  by_cases h15 : y < 464
  · have h9 := List.all_eq_true.mp ok_W15 (y - 435) (List.mem_range.mpr (by omega))
    have e9 : 435 + (y - 435) = y := by omega
    rw [e9] at h9; exact h9
  omega
def ckO (on : Nat) (q : Nat × Nat × Nat) : Bool := pw q.2.1 q.2.2 (Cond.methodLink (onm on) q.1 Lib.objectInit)
def ckY (on : Nat) (q : Nat × Nat × Nat) : Bool := pw q.2.1 q.2.2 (Cond.methodLink (onm on) q.1 arraycopyName)
theorem ok_O : (List.range 17).all (fun on => (opl on).all (ckO on)) = true := by decide +kernel
theorem ok_Y : (List.range 17).all (fun on => (ypl on).all (ckY on)) = true := by decide +kernel
theorem ok_Y1 : Cond.native arraycopyName ∈ pTs ∧ Cond.static arraycopyName ∈ pTs ∧ Cond.initialized "java/lang/System" ∈ pTs := ⟨pw_in (k := 4) (i := 147) (by decide +kernel), pw_in (k := 4) (i := 146) (by decide +kernel), pw_in (k := 1) (i := 21) (by decide +kernel)⟩
theorem ok_A0 : Cond.arrayClass .int ∈ pTs := pw_in (k := 1) (i := 141) (by decide +kernel)
theorem ok_A1 : Cond.arrayClass .long ∈ pTs := pw_in (k := 1) (i := 142) (by decide +kernel)
theorem ok_A2 : Cond.arrayClass .boolean ∈ pTs := pw_in (k := 1) (i := 143) (by decide +kernel)
theorem ok_D : Cond.classLink (onm 12) 9 "ServoNet$Drive" ∈ pTs := pw_in (k := 1) (i := 32) (by decide +kernel)
theorem ok_I : Cond.instanceMethod Lib.objectInit ∈ pTs ∧ Cond.code Lib.objectInit ⟨#[0xb1]⟩ 1 none ∈ pTs := ⟨pw_in (k := 1) (i := 30) (by decide +kernel), pw_in (k := 1) (i := 31) (by decide +kernel)⟩
theorem ok_R0 : ((mwt.drop 432).all (fun t => t.1 == 3 || t.1 == 9)) = true := by decide +kernel
theorem ok_R {r : Nat} {t : Nat × Nat × Nat × Nat × Nat × Nat × Nat × Nat × Nat × Nat} (h : mwt[r]? = some t) (hk : t.1 < 3) : r < 432 := by
  rcases Nat.lt_or_ge r 432 with h1 | h1
  · exact h1
  · exfalso
    have h2 : (mwt.drop 432)[r - 432]? = some t := by rw [List.getElem?_drop, show 432 + (r - 432) = r by omega]; exact h
    have h3 := List.all_eq_true.mp ok_R0 t (List.mem_of_getElem? h2)
    simp only [Bool.or_eq_true, beq_iff_eq] at h3
    omega
def inM (on idx r1 k : Nat) : Bool := (mpl on).any (fun q => q.1 == idx && (q.2.1 == r1 && q.2.2.1 == k))
def inW (r1 k n : Nat) : Bool := match mwt[r1]? with
  | some t => t.1 == k && t.2.1 == n
  | none => false
noncomputable def ckI (on : Nat) (ini : Bool) (o : pOp) : Bool := match o with
  | (pc, ins, _, r1, r2, r3) => match ins with
    | .ifCond _ off => decide (0 ≤ (pc : Int) + off)
    | .if_icmp _ off => decide (0 ≤ (pc : Int) + off)
    | .getfield idx => (fpl on).any (fun q => q.1 == idx && (q.2.1 == r1 && q.2.2.1 == r2))
    | .putfield idx => (fpl on).any (fun q => q.1 == idx && (q.2.1 == r1 && q.2.2.1 == r2)) && (match pcl[r1]? with
      | some v => !(v.2.1 r2).2.2.2 || (ini && decide ((v.2.1 r2).1 = onm on))
      | none => false)
    | .getstatic idx => (spl on).any (fun q => q.1 == idx && q.2.1 == r1)
    | .new idx => decide (r3 = 1) || (cpl on).any (fun q => q.1 == idx && q.2.1 == r1)
    | .newarray a => decide (newarray.typeOf a = .int) || (decide (newarray.typeOf a = .long) || decide (newarray.typeOf a = .boolean))
    | .anewarray idx => on == 12 && idx == 9
    | .aastore => r1 == 5
    | .multianewarray idx dims => dims == 2 && (xpl on).any (fun q => q.1 == idx && q.2.1 == r1)
    | .ldc idx => (kpl on).any (fun q => q.1 == idx && decide (q.2.1 = r3))
    | .ldc_w idx => (kpl on).any (fun q => q.1 == idx && decide (q.2.1 = r3))
    | .ldc2_w idx => (lpl on).any (fun q => q.1 == idx && decide (q.2.1 = r3))
    | .invokestatic idx => if r3 = 7 then (ypl on).any (fun q => q.1 == idx) else (if r3 = 5 then inM on idx r1 1 else inM on idx r1 0) && (inW r1 0 r2 && (if r3 = 8 then (match mt_all[r1]? with | some M => decide (M.2.2.1 ≤ 21) | none => false) else true))
    | .invokespecial idx => if r3 = 0 then inM on idx r1 2 && (inW r1 1 (r2 - 1) && decide (0 < r2)) else (if r3 = 1 then (opl on).any (fun q => q.1 == idx) else true)
    | .invokevirtual idx => inM on idx r1 3 && (inW r1 2 (r2 - 1) && (decide (0 < r2) && (match pcl[r3.toNat]?, mt_all[r1]? with
      | some q, some M => decide (q.1 = M.1.cls)
      | _, _ => false)))
    | _ => true
def ckD (cc : ByteArray) (o : pOp) : Bool := match o with
  | (pc, ins, len, _, _, _) => decide (decode cc pc = .ok (ins, len)) && pm_len ins len
theorem al {α : Type} {f : Nat → List α} {g : Nat → α → Bool} {n : Nat} (h : (List.range n).all (fun on => (f on).all (g on)) = true) {on : Nat} (hn : on < n) {q : α} (hq : q ∈ f on) : g on q = true := List.all_eq_true.mp (List.all_eq_true.mp h on (List.mem_range.mpr hn)) q hq
theorem an {α : Type} {l : List α} {p : α → Bool} (h : l.any p = true) : ∃ q ∈ l, p q = true := List.any_eq_true.mp h
theorem pF_in {on idx r1 r2 : Nat} (hn : on < 17) (h : (fpl on).any (fun q => q.1 == idx && (q.2.1 == r1 && q.2.2.1 == r2)) = true) : ∃ q : vw_C, pcl[r1]? = some q ∧ r2 < q.2.2 ∧ Cond.fieldLink (onm on) idx (q.2.1 r2).1 (q.2.1 r2).2.1 (q.2.1 r2).2.2.1 ∈ pTs := by
  obtain ⟨q, hq, h1⟩ := an h
  simp only [Bool.and_eq_true, beq_iff_eq] at h1
  obtain ⟨h1, h2, h3⟩ := h1
  have h4 := al ok_F hn hq
  unfold ckF at h4
  rw [h1, h2, h3] at h4
  split at h4
  · next v hv =>
    simp only [Bool.and_eq_true, decide_eq_true_eq] at h4
    exact ⟨v, hv, h4.1, pw_in h4.2⟩
  · cases h4
theorem pM_in {on idx r1 k : Nat} (hn : on < 17) (h : inM on idx r1 k = true) : ∃ M : pM, mt_all[r1]? = some M ∧ (k ≠ 1 → Cond.methodLink (onm on) idx M.1 ∈ pTs) ∧ (k = 1 → Cond.methodLinkNest (onm on) idx M.1 "ServoNet" ∈ pNw) := by
  obtain ⟨q, hq, h1⟩ := an h
  simp only [Bool.and_eq_true, beq_iff_eq] at h1
  obtain ⟨h1, h2, h3⟩ := h1
  have h4 := al ok_M hn hq
  unfold ckM at h4
  rw [h1, h2, h3] at h4
  split at h4
  · next M hM =>
    refine ⟨M, hM, fun hk => ?_, fun hk => ?_⟩
    · rw [if_neg hk] at h4
      exact pw_in h4
    · rw [if_pos hk] at h4
      exact pwn_in h4
  · cases h4
theorem pW_in {r1 k n : Nat} {M : pM} (hk : k < 3) (h : inW r1 k n = true) (hM : mt_all[r1]? = some M) : Cond.initialized M.1.cls ∈ pTs ∧ Cond.code M.1 M.2.1 M.2.2.1 M.2.2.2.1 ∈ pTs ∧ M.2.2.1 ≤ 22 ∧ (M.1.cls ≠ "java/lang/invoke/MethodHandle" ∧ M.1.cls ≠ "java/lang/invoke/VarHandle" ∧ (parseMethodDescriptor M.1.desc).map (fun d => d.parameters.length) = some n) ∧ (k = 0 → Cond.static M.1 ∈ pTs) ∧ (k = 1 → Cond.instanceMethod M.1 ∈ pTs ∧ M.1.name = "<init>" ∧ M.2.2.2.1 = none) ∧ (k = 2 → Cond.instanceMethod M.1 ∈ pTs ∧ Cond.selects M.1.cls M.1 M.1 ∈ pTs) := by
  unfold inW at h
  split at h
  · next t ht =>
    have hr : r1 < 456 := by
      have h9 := (List.getElem?_eq_some_iff.mp ht).1
      have h8 : mwt.length ≤ 456 := by decide +kernel
      omega
    have h4 := ok_W (y := r1) (by omega)
    unfold ckWs at h4
    rw [hM, ht] at h4
    dsimp only at h4
    obtain ⟨t1, t2, i1, i2, c1, c2, s1, s2, v1, v2⟩ := t
    simp only [Bool.and_eq_true, beq_iff_eq] at h
    obtain ⟨rfl, rfl⟩ := h
    unfold ckW at h4
    dsimp only at h4
    rw [if_neg (by omega)] at h4
    simp only [Bool.and_eq_true, decide_eq_true_eq] at h4
    have hr3 : r1 < 432 := ok_R ht (by omega)
    obtain ⟨a1, a2, a3, a4, a5, a6, a7⟩ := h4
    refine ⟨pw_in a1, okc_all hr3 hM, a3, ⟨a4, a5, a6⟩, fun hk => ?_, fun hk => ?_, fun hk => ?_⟩
    · subst hk
      rw [if_pos rfl] at a7
      exact pw_in a7
    · subst hk
      rw [if_neg (by decide), if_pos rfl] at a7
      simp only [Bool.and_eq_true, decide_eq_true_eq] at a7
      exact ⟨pw_in a7.1, a7.2.1, a7.2.2⟩
    · subst hk
      rw [if_neg (by decide), if_neg (by decide)] at a7
      simp only [Bool.and_eq_true] at a7
      exact ⟨pw_in a7.1, pw_in a7.2⟩
  · cases h
theorem ck_ok {on : Nat} (hn : on < 17) {mname : String} {ini : Bool} (hini : ini = true → mname = "<init>") {cc : ByteArray} {o : pOp} (h1 : ckD cc o = true) (h2 : ckI on ini o = true) : pm_opok pTs pNw mt_all pcl pstat (onm on) mname cc o := by
  obtain ⟨pc, ins, len, r1, r2, r3⟩ := o
  simp only [ckD, Bool.and_eq_true, decide_eq_true_eq] at h1
  refine ⟨h1.1, h1.2, ?_⟩
  clear h1
  cases ins <;> try trivial
  case ifCond => simpa [ckI] using h2
  case if_icmp => simpa [ckI] using h2
  case getfield idx => exact pF_in hn h2
  case putfield idx =>
    simp only [ckI, Bool.and_eq_true] at h2
    obtain ⟨q, a1, a2, a3⟩ := pF_in hn h2.1
    have h3 := h2.2
    rw [a1] at h3
    simp only [Bool.or_eq_true, Bool.not_eq_true', Bool.and_eq_true, decide_eq_true_eq] at h3
    refine ⟨q, a1, a2, a3, ?_⟩
    rcases h3 with h3 | ⟨h3, h4⟩
    · exact Or.inl h3
    · cases hf : (q.2.1 r2).2.2.2 with
      | false => exact Or.inl rfl
      | true => exact Or.inr ⟨rfl, hini h3, h4⟩
  case getstatic idx =>
    simp only [ckI] at h2
    obtain ⟨q, hq, h3⟩ := an h2
    simp only [Bool.and_eq_true, beq_iff_eq] at h3
    have h4 := al ok_S hn hq
    unfold ckS at h4
    rw [h3.1, h3.2] at h4
    split at h4
    · next v hv =>
      refine ⟨v, hv, ?_⟩
      split at h4
      · exact Or.inl (pw_in h4)
      · exact Or.inr ⟨_, pwn_in h4⟩
    · cases h4
  case new idx =>
    intro h0
    simp only [ckI, Bool.or_eq_true, decide_eq_true_eq] at h2
    rcases h2 with h2 | h2
    · rw [h0] at h2; cases h2
    · obtain ⟨q, hq, h3⟩ := an h2
      simp only [Bool.and_eq_true, beq_iff_eq] at h3
      have h4 := al ok_C hn hq
      unfold ckC at h4
      rw [h3.1, h3.2] at h4
      split at h4
      · next v hv =>
        simp only [Bool.and_eq_true] at h4
        exact ⟨v, hv, pw_in h4.1, pw_in h4.2.1, pw_in h4.2.2⟩
      · cases h4
  case newarray a =>
    simp only [ckI, Bool.or_eq_true, decide_eq_true_eq] at h2
    show Cond.arrayClass (newarray.typeOf a) ∈ pTs
    rcases h2 with h2 | h2 | h2
    · rw [h2]; exact ok_A0
    · rw [h2]; exact ok_A1
    · rw [h2]; exact ok_A2
  case anewarray idx =>
    simp only [ckI, Bool.and_eq_true, beq_iff_eq] at h2
    show Cond.classLink (onm on) idx "ServoNet$Drive" ∈ pTs
    rw [h2.1, h2.2]; exact ok_D
  case aastore =>
    simp only [ckI, beq_iff_eq] at h2
    subst h2
    exact ⟨_, rfl, rfl⟩
  case multianewarray idx dims =>
    simp only [ckI, Bool.and_eq_true, beq_iff_eq] at h2
    obtain ⟨q, hq, h3⟩ := an h2.2
    simp only [Bool.and_eq_true, beq_iff_eq] at h3
    have h4 := al ok_X hn hq
    unfold ckX at h4
    rw [h3.1, h3.2] at h4
    simp only [Bool.and_eq_true, decide_eq_true_eq] at h4
    refine ⟨h2.1, h4.1, pw_in h4.2, ?_⟩
    match r1, h4.1 with
    | 0, _ => exact ok_A0
    | 1, _ => exact ok_A1
  case ldc idx =>
    simp only [ckI] at h2
    obtain ⟨q, hq, h3⟩ := an h2
    simp only [Bool.and_eq_true, beq_iff_eq, decide_eq_true_eq] at h3
    have h4 := al ok_K hn hq
    unfold ckK at h4
    rw [h3.1, h3.2] at h4
    exact pw_in h4
  case ldc_w idx =>
    simp only [ckI] at h2
    obtain ⟨q, hq, h3⟩ := an h2
    simp only [Bool.and_eq_true, beq_iff_eq, decide_eq_true_eq] at h3
    have h4 := al ok_K hn hq
    unfold ckK at h4
    rw [h3.1, h3.2] at h4
    exact pw_in h4
  case ldc2_w idx =>
    simp only [ckI] at h2
    obtain ⟨q, hq, h3⟩ := an h2
    simp only [Bool.and_eq_true, beq_iff_eq, decide_eq_true_eq] at h3
    have h4 := al ok_L hn hq
    unfold ckL at h4
    rw [h3.1, h3.2] at h4
    exact pw_in h4
  case invokestatic idx =>
    simp only [ckI] at h2
    refine ⟨fun h7 => ?_, fun h7 => ?_⟩
    · rw [if_pos h7] at h2
      obtain ⟨q, hq, h3⟩ := an h2
      simp only [beq_iff_eq] at h3
      have h4 := al ok_Y hn hq
      unfold ckY at h4
      rw [h3] at h4
      exact ⟨pw_in h4, ok_Y1.1, ok_Y1.2.1, ok_Y1.2.2⟩
    · rw [if_neg h7] at h2
      simp only [Bool.and_eq_true] at h2
      by_cases h5 : r3 = 5
      · rw [if_pos h5] at h2
        obtain ⟨M, m1, m2, m3⟩ := pM_in hn h2.1
        obtain ⟨w1, w2, w3, w4, w5, -⟩ := pW_in (by omega) h2.2.1 m1
        exact ⟨M, m1, Or.inr ⟨h5, _, m3 rfl⟩, w5 rfl, w1, w2, ⟨w3, fun h8 => by omega⟩, w4⟩
      · rw [if_neg h5] at h2
        obtain ⟨M, m1, m2, m3⟩ := pM_in hn h2.1
        obtain ⟨w1, w2, w3, w4, w5, -⟩ := pW_in (by omega) h2.2.1 m1
        refine ⟨M, m1, Or.inl (m2 (by decide)), w5 rfl, w1, w2, ⟨w3, fun h8 => ?_⟩, w4⟩
        have h9 := h2.2.2
        rw [if_pos h8, m1] at h9
        exact of_decide_eq_true h9
  case invokespecial idx =>
    simp only [ckI] at h2
    refine ⟨fun h0 => ?_, fun h1 => ?_⟩
    · rw [if_pos h0] at h2
      simp only [Bool.and_eq_true, decide_eq_true_eq] at h2
      obtain ⟨M, m1, m2, m3⟩ := pM_in hn h2.1
      obtain ⟨w1, w2, w3, w4, -, w6, -⟩ := pW_in (by omega) h2.2.1 m1
      obtain ⟨x1, x2, x3⟩ := w6 rfl
      exact ⟨M, r2 - 1, by omega, m1, m2 (by decide), x1, x2, x3, w1, w2, w3, w4⟩
    · rw [if_neg (by omega), if_pos h1] at h2
      obtain ⟨q, hq, h3⟩ := an h2
      simp only [beq_iff_eq] at h3
      have h4 := al ok_O hn hq
      unfold ckO at h4
      rw [h3] at h4
      exact pw_in h4
  case invokevirtual idx =>
    simp only [ckI, Bool.and_eq_true, decide_eq_true_eq] at h2
    obtain ⟨M, m1, m2, m3⟩ := pM_in hn h2.1
    obtain ⟨w1, w2, w3, w4, -, -, w7⟩ := pW_in (by omega) h2.2.1 m1
    obtain ⟨x1, x2⟩ := w7 rfl
    have h5 := h2.2.2.2
    rw [m1] at h5
    split at h5
    · next q' M' hq' hM' =>
      cases hM'
      exact ⟨_, r2 - 1, q', by omega, m1, hq', of_decide_eq_true h5, m2 (by decide), x1, x2, w1, w2, w3, w4⟩
    · cases h5

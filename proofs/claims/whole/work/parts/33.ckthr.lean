/-! ===== the throws, the handlers, the law's own frame ===== -/
def inT (w : Cond) : Bool := goodWord w && (List.range 15).any (fun k => (chn k).any (fun v => decide (v = w)))
theorem inT_ok {w : Cond} (h : inT w = true) : w ∈ pTs := by
  simp only [inT, Bool.and_eq_true] at h
  obtain ⟨k, -, hk⟩ := an h.2
  obtain ⟨v, hv, hw⟩ := an hk
  have e : v = w := of_decide_eq_true hw
  subst e
  exact List.mem_filter.mpr ⟨chn_in hv, h.1⟩
/-- words of a throw that a state's own tables decide, but that are not kept from state to state by form -/
def pTx : List Cond := [.castable (pm_en 0) (pm_en 0), .castable (pm_en 1) (pm_en 1), .castable (pm_en 2) (pm_en 2), .declares ⟨"java/lang/RuntimeException", "<init>", "(Ljava/lang/String;)V"⟩, .declares ⟨"java/lang/Exception", "<init>", "(Ljava/lang/String;)V"⟩, .declares ⟨"java/lang/Throwable", "<init>", "(Ljava/lang/String;)V"⟩]
theorem pTx_in : pTx.all (fun w => (List.range 15).any (fun k => (chn k).any (fun v => decide (v = w))) && (w.onTables && w.keepsFace)) = true := by decide +kernel
theorem pTx_warm {args A : Array Value} {s0 s : State} (h0 : ∀ w ∈ lw_tbl, w.before args s0 = true) (hW : s0.WarmedH s.vm) : ∀ w ∈ pTx, w.onTables = true ∧ w.before A s = true := by
  intro w hw
  have h := List.all_eq_true.mp pTx_in w hw
  simp only [Bool.and_eq_true] at h
  obtain ⟨k, -, hk⟩ := an h.1
  obtain ⟨v, hv, he⟩ := an hk
  have e : v = w := of_decide_eq_true he
  subst e
  refine ⟨h.2.1, ?_⟩
  have h3 := Cond.before_shiftedFace (args := args) (State.Shifted.of_warmed hW) v h.2.2 (h0 v (chn_in hv))
  have h4 := Cond.onTables_vm (A := A) (A' := args) (U := s) (U' := s0) s.vm v h.2.1
  rw [← h4] at h3
  exact h3
def inX (w : Cond) : Bool := pTx.any (fun v => decide (v = w))
theorem inX_ok {w : Cond} (h : inX w = true) : w ∈ pTx := by
  obtain ⟨v, hv, hw⟩ := an h
  have e : v = w := of_decide_eq_true hw
  subst e
  exact hv
theorem ok_T0 : (vx_atS "ServoNet" (tC 0) (pm_en 0) pm_names).all (fun w => inX w || inT w) = true := by decide +kernel
theorem ok_T1 : (vx_atS "ServoNet" (tC 1) (pm_en 1) pm_names).all (fun w => inX w || inT w) = true := by decide +kernel
theorem ok_T2 : (vx_atS "ServoNet" (tC 2) (pm_en 2) pm_names).all (fun w => inX w || inT w) = true := by decide +kernel
theorem ok_TL : (List.range 3).all (fun E => inT (Cond.classLink "ServoNet" (tI E) (pm_en E)) && inT (Cond.initialized (pm_en E))) = true := by decide +kernel
def strs : List (String × Nat) × List Cond := (strl.map (fun i => ("ServoNet", i)), pTx)
def ckT (own : String) (cc : ByteArray) (o : pOp) : Bool := match o with
  | (pc, ins, _, r1, _, r3) => match ins with
    | .new idx => if r3 = 1 then decide (own = "ServoNet") && (decide (r1 < 3) && (idx == tI r1 && (decide (decode cc (pc + 3) = .ok (.dup, 1)) && strl.any (fun is => (decide (decode cc (pc + 4) = .ok (.ldc is, 2)) && (decide (decode cc (pc + 6) = .ok (.invokespecial (tC r1), 3)) && decide (decode cc (pc + 9) = .ok (.athrow, 1)))) || (decide (decode cc (pc + 4) = .ok (.ldc_w is, 3)) && (decide (decode cc (pc + 7) = .ok (.invokespecial (tC r1), 3)) && decide (decode cc (pc + 10) = .ok (.athrow, 1)))))))) else true
    | _ => true
theorem ckT_ok {own : String} {cc : ByteArray} {o : pOp} (h : ckT own cc o = true) : pm_thok pTs strs own cc o := by
  obtain ⟨pc, ins, len, r1, r2, r3⟩ := o
  cases ins <;> try trivial
  case new idx =>
    intro h1
    simp only [ckT] at h
    rw [if_pos h1] at h
    simp only [Bool.and_eq_true, decide_eq_true_eq, beq_iff_eq] at h
    obtain ⟨rfl, hr, rfl, hd, h5⟩ := h
    obtain ⟨is, his, h6⟩ := an h5
    have hl := List.all_eq_true.mp ok_TL r1 (List.mem_range.mpr hr)
    simp only [Bool.and_eq_true] at hl
    refine ⟨is, tC r1, hd, inT_ok hl.1, inT_ok hl.2, ?_, List.mem_map.mpr ⟨is, his, rfl⟩, ?_⟩
    · intro w hw
      have k : ∀ E : Nat, (vx_atS "ServoNet" (tC E) (pm_en E) pm_names).all (fun w => inX w || inT w) = true → w ∈ vx_atS "ServoNet" (tC E) (pm_en E) pm_names → w ∈ pTs ∨ w ∈ pTx := fun E h8 h9 => by
        have h7 := List.all_eq_true.mp h8 w h9
        simp only [Bool.or_eq_true] at h7
        rcases h7 with h7 | h7
        · exact Or.inr (inX_ok h7)
        · exact Or.inl (inT_ok h7)
      rcases Nat.lt_or_ge r1 1 with h0 | h0
      · have e0 : r1 = 0 := by omega
        rw [e0] at hw
        exact k 0 ok_T0 hw
      · rcases Nat.lt_or_ge r1 2 with h2 | h2
        · have e0 : r1 = 1 := by omega
          rw [e0] at hw
          exact k 1 ok_T1 hw
        · have e0 : r1 = 2 := by omega
          rw [e0] at hw
          exact k 2 ok_T2 hw
    · simp only [Bool.or_eq_true, Bool.and_eq_true, decide_eq_true_eq] at h6
      rcases h6 with ⟨a, b, c⟩ | ⟨a, b, c⟩
      · exact Or.inl ⟨a, b, c⟩
      · exact Or.inr ⟨a, b, c⟩
/-! the handlers -/
def ckH (cc : ByteArray) (nL : Nat) (q : Nat × Nat × Nat × Int32) : Bool := decide (q.1 < 3) && (decide (q.2.2.1 < nL) && ((List.range 4).any (fun k => if hk : k < 4 then decide (k = q.2.2.1) && (decide (decode cc q.2.1 = .ok (.astore_n ⟨k, hk⟩, 1)) && (decide (decode cc (q.2.1 + 1) = .ok (.iconst q.2.2.2.toInt, 1)) && decide (decode cc (q.2.1 + 2) = .ok (.ireturn, 1)))) else false) || (decide (decode cc q.2.1 = .ok (.astore q.2.2.1, 2)) && (decide (decode cc (q.2.1 + 2) = .ok (.iconst q.2.2.2.toInt, 1)) && decide (decode cc (q.2.1 + 3) = .ok (.ireturn, 1))))))
theorem ckH_ok {cc : ByteArray} {nL : Nat} {q : Nat × Nat × Nat × Int32} (h : ckH cc nL q = true) : q.1 < 3 ∧ pm_hok cc nL q := by
  simp only [ckH, Bool.and_eq_true, Bool.or_eq_true, decide_eq_true_eq] at h
  obtain ⟨h1, h2, h3⟩ := h
  refine ⟨h1, q.2.2.2.toInt, Int32.ofInt_toInt _, h2, ?_⟩
  rcases h3 with h3 | h3
  · obtain ⟨k, -, hk⟩ := an h3
    split at hk
    · next hk4 =>
      simp only [Bool.and_eq_true, decide_eq_true_eq] at hk
      exact Or.inl ⟨⟨k, hk4⟩, hk.1, hk.2.1, hk.2.2.1, hk.2.2.2⟩
    · cases hk
  · exact Or.inr h3
def ckV (hi : Nat) (o : pOp) : Bool := match o.2.1 with
  | .new _ => false
  | .invokestatic _ => false
  | .invokevirtual _ => decide (o.1 < hi)
  | _ => true
theorem ckV_ok {hi : Nat} {o : pOp} (h : ckV hi o = true) : (∀ r3 st, pm_isThrow o.2.1 r3 st = false) ∧ (∀ r3, pm_mayThrow o.2.1 r3 = true → (∃ idx, o.2.1 = .invokevirtual idx) ∧ o.1 < hi) := by
  obtain ⟨pc, ins, len, r1, r2, r3⟩ := o
  cases ins <;> first
    | (cases h; done)
    | exact ⟨fun _ _ => rfl, fun _ _ => ⟨⟨_, rfl⟩, of_decide_eq_true h⟩⟩
    | exact ⟨fun _ _ => rfl, fun _ hh => by cases hh⟩
noncomputable def Hm (y : Nat) : Option (pM × List (Nat × Nat × Nat × Nat)) := match hlp y, mt_all[y]? with
  | some h, some M => some (M, pm_tab h.1 h.2 hct)
  | _, _ => none
noncomputable def ckHy (y : Nat) : Bool := match hlp y, mt_all[y]?, mwt[y]? with
  | some h, some M, some (k, _, i1, i2, c1, c2, s1, s2, _, _) => decide (k = 3) && (decide (M.1.cls = onm 14) && (decide (M.2.2.2.1 = some .int) && (h.1.all (ckH M.2.1 M.2.2.1) && (M.2.2.2.2.all (ckV h.2) && (pw i1 i2 (Cond.initialized M.1.cls) && (pw c1 c2 (Cond.codeWith M.1 M.2.1 M.2.2.1 M.2.2.2.1 (pm_tab h.1 h.2 hct)) && (pw s1 s2 (Cond.static M.1) && decide (M.2.2.1 ≤ 22))))))))
  | _, _, _ => false
theorem ok_H : (List.range 23).all (fun i => ckHy (432 + i)) = true := by decide +kernel
theorem hlp_in {y : Nat} {h : List (Nat × Nat × Nat × Int32) × Nat} (e : hlp y = some h) : 432 ≤ y ∧ y < 455 := by
  unfold hlp at e
  split at e <;> first | (cases e; done) | omega
theorem ckHy_ok {y : Nat} {h : List (Nat × Nat × Nat × Int32) × Nat} (e : hlp y = some h) : ∃ M : pM, mt_all[y]? = some M ∧ M.1.cls = "ServoNetLaw" ∧ M.2.2.2.1 = some .int ∧ (∀ q ∈ h.1, q.1 < 3 ∧ pm_hok M.2.1 M.2.2.1 q) ∧ (∀ o ∈ M.2.2.2.2, (∀ r3 st, pm_isThrow o.2.1 r3 st = false) ∧ (∀ r3, pm_mayThrow o.2.1 r3 = true → (∃ idx, o.2.1 = .invokevirtual idx) ∧ o.1 < h.2)) ∧ Cond.initialized M.1.cls ∈ pTs ∧ Cond.codeWith M.1 M.2.1 M.2.2.1 M.2.2.2.1 (pm_tab h.1 h.2 hct) ∈ pTs ∧ Cond.static M.1 ∈ pTs ∧ M.2.2.1 ≤ 22 := by
  obtain ⟨h1, h2⟩ := hlp_in e
  have h3 := List.all_eq_true.mp ok_H (y - 432) (List.mem_range.mpr (by omega))
  have e9 : 432 + (y - 432) = y := by omega
  rw [e9] at h3
  unfold ckHy at h3
  rw [e] at h3
  split at h3
  · next h' M k n i1 i2 c1 c2 s1 s2 v1 v2 hh hM hw =>
    cases hh
    simp only [Bool.and_eq_true, decide_eq_true_eq] at h3
    obtain ⟨b1, b2, b3, b4, b5, b6, b7, b8, b9⟩ := h3
    exact ⟨M, hM, b2, b3, fun q hq => ckH_ok (List.all_eq_true.mp b4 q hq), fun o ho => ckV_ok (List.all_eq_true.mp b5 o ho), pw_in b6, pw_in b7, pw_in b8, b9⟩
  · cases h3
noncomputable def ckP (o : pOp) : Bool := match o with
  | (_, ins, len, r1, r2, _) => match ins with
    | .invokestatic idx => decide (len = 3) && (inM 14 idx r1 0 && ((hlp r1).isSome && (match mt_all[r1]? with
      | some M => decide ((parseMethodDescriptor M.1.desc).map (fun d => d.parameters.length) = some r2)
      | none => false)))
    | _ => false
theorem ckP_ok {cc : ByteArray} {o : pOp} (h1 : ckD cc o = true) (h : ckP o = true) : pm_hpok pTs Hm "ServoNetLaw" cc o := by
  obtain ⟨pc, ins, len, r1, r2, r3⟩ := o
  cases ins <;> first | (cases h; done) | skip
  case invokestatic idx =>
    simp only [ckP, Bool.and_eq_true, decide_eq_true_eq] at h
    obtain ⟨rfl, a1, a2, a3⟩ := h
    obtain ⟨M, m1, m2, -⟩ := pM_in (by decide) a1
    obtain ⟨hh, he⟩ := Option.isSome_iff_exists.mp a2
    obtain ⟨M', n1, n2, n3, n4, n5, n6, n7, n8, n9⟩ := ckHy_ok he
    have e9 : M' = M := Option.some.inj (n1.symm.trans m1)
    subst e9
    rw [m1] at a3
    have a3 := of_decide_eq_true a3
    simp only [ckD, Bool.and_eq_true, decide_eq_true_eq] at h1
    have hH : Hm r1 = some (M', pm_tab hh.1 hh.2 hct) := by
      unfold Hm
      rw [he, m1]
    refine ⟨idx, rfl, rfl, h1.1, (M', pm_tab hh.1 hh.2 hct), hH, m2 (by decide), n8, n6, n7, n9, ?_, ?_, a3⟩
    · show M'.1.cls ≠ _
      rw [n2]; decide
    · show M'.1.cls ≠ _
      rw [n2]; decide

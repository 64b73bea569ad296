set_option maxRecDepth 20000
/-! ===== what begins anew, what both keep of process data and heartbeats; an entry gets another number ===== -/
theorem pd_iff {X : pX} {ρ : sR} : sc X ρ (137, .add (.elem (.arg 1761) (.int 0)) (.add (.arg 2848) (.add (.elem (.arg 24512) (.int 0)) (.add (.elem (.arg 2404) (.int 0)) (.add (.elem (.arg 24544) (.int 0)) (.add (.elem (.arg 2436) (.int 0)) (.add (.arg 5728) (.add (.arg 5760) (.add (.arg 5792) (.add (.arg 5824) (.add (.arg 5856) (.add (.arg 5888) (.add (.arg 5920) (.add (.arg 5952) (.add (.arg 2082) (.add (.arg 2114) (.add (.arg 2146) (.add (.arg 2178) (.add (.arg 6850) (.add (.arg 6882) (.add (.arg 6914) (.add (.arg 6946) (.add (.arg 2210) (.add (.arg 2242) (.add (.arg 2274) (.add (.arg 2306) (.add (.arg 7362) (.add (.arg 7394) (.add (.arg 7426) (.add (.arg 7458) (.add (.arg 2338) (.add (.arg 2370) (.add (.arg 2402) (.add (.arg 2434) (.add (.arg 7874) (.add (.arg 7906) (.add (.arg 7938) (.add (.arg 7970) (.add (.arg 6240) (.add (.arg 6272) (.add (.arg 6304) (.add (.arg 6336) (.add (.arg 21216) (.add (.arg 21248) (.add (.arg 21280) (.add (.arg 21312) (.add (.arg 1570) (.add (.arg 1602) (.add (.arg 6466) (.arg 6498))))))))))))))))))))))))))))))))))))))))))))))))), .int 0) = true ↔ ((apin (ρ.2.2.2.1 1761) (ρ.2.2.1 24512) (ρ.2.2.1 2404) 0 (abit (ρ.1 2848).toInt (8 + 0)) (ρ.1 5728).toInt (ρ.1 2082).toInt (ρ.1 6850).toInt (ρ.1 2210).toInt (ρ.1 7362).toInt = true ∧ apou (ρ.2.2.2.1 1761) (ρ.2.2.1 24544) (ρ.2.2.1 2436) 0 (abit (ρ.1 2848).toInt (12 + 0)) (ρ.1 5856).toInt (ρ.1 2338).toInt (ρ.1 7874).toInt (ρ.1 6240).toInt (ρ.1 21216).toInt = true) ∧ (apin (ρ.2.2.2.1 1761) (ρ.2.2.1 24512) (ρ.2.2.1 2404) 1 (abit (ρ.1 2848).toInt (8 + 1)) (ρ.1 5760).toInt (ρ.1 2114).toInt (ρ.1 6882).toInt (ρ.1 2242).toInt (ρ.1 7394).toInt = true ∧ apou (ρ.2.2.2.1 1761) (ρ.2.2.1 24544) (ρ.2.2.1 2436) 1 (abit (ρ.1 2848).toInt (12 + 1)) (ρ.1 5888).toInt (ρ.1 2370).toInt (ρ.1 7906).toInt (ρ.1 6272).toInt (ρ.1 21248).toInt = true) ∧ (apin (ρ.2.2.2.1 1761) (ρ.2.2.1 24512) (ρ.2.2.1 2404) 2 (abit (ρ.1 2848).toInt (8 + 2)) (ρ.1 5792).toInt (ρ.1 2146).toInt (ρ.1 6914).toInt (ρ.1 2274).toInt (ρ.1 7426).toInt = true ∧ apou (ρ.2.2.2.1 1761) (ρ.2.2.1 24544) (ρ.2.2.1 2436) 2 (abit (ρ.1 2848).toInt (12 + 2)) (ρ.1 5920).toInt (ρ.1 2402).toInt (ρ.1 7938).toInt (ρ.1 6304).toInt (ρ.1 21280).toInt = true) ∧ (apin (ρ.2.2.2.1 1761) (ρ.2.2.1 24512) (ρ.2.2.1 2404) 3 (abit (ρ.1 2848).toInt (8 + 3)) (ρ.1 5824).toInt (ρ.1 2178).toInt (ρ.1 6946).toInt (ρ.1 2306).toInt (ρ.1 7458).toInt = true ∧ apou (ρ.2.2.2.1 1761) (ρ.2.2.1 24544) (ρ.2.2.1 2436) 3 (abit (ρ.1 2848).toInt (12 + 3)) (ρ.1 5952).toInt (ρ.1 2434).toInt (ρ.1 7970).toInt (ρ.1 6336).toInt (ρ.1 21312).toInt = true)) ∧ apaw (ρ.2.2.2.1 1761) 0 (abit (ρ.1 2848).toInt (2 + 0)) (ρ.1 1570).toInt (ρ.1 6466).toInt = true ∧ apaw (ρ.2.2.2.1 1761) 1 (abit (ρ.1 2848).toInt (2 + 1)) (ρ.1 1602).toInt (ρ.1 6498).toInt = true := by
  show apall (aits X ρ (.add (.elem (.arg 1761) (.int 0)) (.add (.arg 2848) (.add (.elem (.arg 24512) (.int 0)) (.add (.elem (.arg 2404) (.int 0)) (.add (.elem (.arg 24544) (.int 0)) (.add (.elem (.arg 2436) (.int 0)) (.add (.arg 5728) (.add (.arg 5760) (.add (.arg 5792) (.add (.arg 5824) (.add (.arg 5856) (.add (.arg 5888) (.add (.arg 5920) (.add (.arg 5952) (.add (.arg 2082) (.add (.arg 2114) (.add (.arg 2146) (.add (.arg 2178) (.add (.arg 6850) (.add (.arg 6882) (.add (.arg 6914) (.add (.arg 6946) (.add (.arg 2210) (.add (.arg 2242) (.add (.arg 2274) (.add (.arg 2306) (.add (.arg 7362) (.add (.arg 7394) (.add (.arg 7426) (.add (.arg 7458) (.add (.arg 2338) (.add (.arg 2370) (.add (.arg 2402) (.add (.arg 2434) (.add (.arg 7874) (.add (.arg 7906) (.add (.arg 7938) (.add (.arg 7970) (.add (.arg 6240) (.add (.arg 6272) (.add (.arg 6304) (.add (.arg 6336) (.add (.arg 21216) (.add (.arg 21248) (.add (.arg 21280) (.add (.arg 21312) (.add (.arg 1570) (.add (.arg 1602) (.add (.arg 6466) (.arg 6498))))))))))))))))))))))))))))))))))))))))))))))))))) = true ↔ _
  unfold apall
  show ((([0, 1, 2, 3] : List Nat).all _) && (([0, 1] : List Nat).all _)) = true ↔ _
  simp only [List.all_cons, List.all_nil, Bool.and_eq_true, Bool.and_true]
  exact Iff.rfl
theorem ab_i {x : Int32} {n : Nat} : abit x.toInt n = x.toBitVec.getLsbD n := by
  unfold abit
  rw [Int32.ofInt_toInt]
theorem ab_or {x c : Int32} {n : Nat} : abit (x ||| c).toInt n = (abit x.toInt n || c.toBitVec.getLsbD n) := by
  rw [ab_i, ab_i, Int32.toBitVec_or, BitVec.getLsbD_or]
theorem mr_k {g h : Nat → Int64} {m i : Nat} (h0 : h m = g m) (h1 : h (m + 1 + i) = g (m + 1 + i)) : mrow h m i = mrow g m i := by
  unfold mrow
  rw [h0, h1]
theorem mp_k {g h : Nat → Int64} {m at_ : Nat} {s w : Nat → Int32} (e : ∀ j, m ≤ j → j ≤ m + 4 → h j = g j) : amapm h m at_ s w = amapm g m at_ s w ∧ amsum h m = amsum g m := by
  have q : ∀ i, i < 4 → mrow h m i = mrow g m i := fun i hi => mr_k (e m (by omega) (by omega)) (e (m + 1 + i) (by omega) (by omega))
  constructor
  · unfold amapm
    show ([0, 1, 2, 3] : List Nat).all _ = ([0, 1, 2, 3] : List Nat).all _
    simp only [List.all_cons, List.all_nil, q 0 (by decide), q 1 (by decide), q 2 (by decide), q 3 (by decide)]
  · unfold amsum
    show (([0, 1, 2, 3] : List Nat).map _).sum = (([0, 1, 2, 3] : List Nat).map _).sum
    simp only [List.map_cons, List.map_nil, q 0 (by decide), q 1 (by decide), q 2 (by decide), q 3 (by decide)]
theorem pi_set {g : Nat → Int64} {s w : Nat → Int32} {k : Nat} {bits wt aw : Int} : apin g s w k true bits wt 0 aw 0 = true := rfl
theorem po_set {g : Nat → Int64} {s w : Nat → Int32} {k : Nat} {bits st sy : Int} : apou g s w k true bits st 0 sy 0 = true := rfl
theorem pa_set {g : Nat → Int64} {i : Nat} {aw : Int} : apaw g i true aw 0 = true := rfl
theorem pi_k {g h : Nat → Int64} {s w : Nat → Int32} {k : Nat} {b : Bool} {bits wt hs aw ma : Int} (e1 : h (35 + 4 * k) = g (35 + 4 * k)) (e2 : h (36 + 4 * k) = g (36 + 4 * k)) (e : ∀ j, 50 + 5 * k ≤ j → j ≤ 50 + 5 * k + 4 → h j = g j) : apin h s w k b bits wt hs aw ma = apin g s w k b bits wt hs aw ma := by
  unfold apin
  rw [e1, e2, (mp_k (at_ := 4 * k) (s := s) (w := w) e).1, (mp_k (at_ := 4 * k) (s := s) (w := w) e).2]
theorem po_k {g h : Nat → Int64} {s w : Nat → Int32} {k : Nat} {b : Bool} {bits st hs sy ms : Int} (e : ∀ j, 90 + 5 * k ≤ j → j ≤ 90 + 5 * k + 4 → h j = g j) : apou h s w k b bits st hs sy ms = apou g s w k b bits st hs sy ms := by
  unfold apou
  rw [(mp_k (at_ := 4 * k) (s := s) (w := w) e).1, (mp_k (at_ := 4 * k) (s := s) (w := w) e).2]
theorem pa_k {g h : Nat → Int64} {i : Nat} {b : Bool} {aw ma : Int} (e : h (21 + i) = g (21 + i)) : apaw h i b aw ma = apaw g i b aw ma := by
  unfold apaw
  rw [e]
/-- what a store tells of anew and of what the model keeps: bits that are set, numbers that are cleared -/
noncomputable def wsP (c : Int32) (z : List Nat) : List (Nat × sT) := (2848, .op2 .ior (.arg 2848) (.int c)) :: ([6850, 6882, 6914, 6946, 7362, 7394, 7426, 7458, 7874, 7906, 7938, 7970, 21216, 21248, 21280, 21312, 6466, 6498] : List Nat).map (fun v => (v, cond (z.contains v) (.int 0) (.arg v)))
noncomputable def pdI (p : Nat) (c : Int32) (z : List Nat) (k a b : Nat) : Bool := (c.toBitVec.getLsbD (8 + k) && (z.contains a && z.contains b)) || (!(c.toBitVec.getLsbD (8 + k)) && (!(z.contains a) && (!(z.contains b) && !(Nat.beq p (35 + 4 * k) || (Nat.beq p (36 + 4 * k) || (Nat.ble (50 + 5 * k) p && Nat.ble p (54 + 5 * k)))))))
noncomputable def pdO (p : Nat) (c : Int32) (z : List Nat) (k a b : Nat) : Bool := (c.toBitVec.getLsbD (12 + k) && (z.contains a && z.contains b)) || (!(c.toBitVec.getLsbD (12 + k)) && (!(z.contains a) && (!(z.contains b) && !(Nat.ble (90 + 5 * k) p && Nat.ble p (94 + 5 * k)))))
noncomputable def pdA (p : Nat) (c : Int32) (z : List Nat) (i a : Nat) : Bool := (c.toBitVec.getLsbD (2 + i) && z.contains a) || (!(c.toBitVec.getLsbD (2 + i)) && (!(z.contains a) && !(Nat.beq p (21 + i))))
noncomputable def pdchk (p : Nat) (c : Int32) (z : List Nat) : Bool := (pdI p c z 0 6850 7362 && (pdO p c z 0 7874 21216 && (pdI p c z 1 6882 7394 && (pdO p c z 1 7906 21248 && (pdI p c z 2 6914 7426 && (pdO p c z 2 7938 21280 && (pdI p c z 3 6946 7458 && (pdO p c z 3 7970 21312 && (pdA p c z 0 6466 && pdA p c z 1 6498)))))))))
theorem co_t {b : Bool} {x : Nat} {X : pX} {ρ ρ3 : sR} (h : sd X ρ3 (.arg x) = sd X ρ (cond b (.int 0) (.arg x))) : ρ3.1 x = cond b 0 (ρ.1 x) := by
  have h := congrArg Prod.fst h
  cases b
  · exact h
  · exact h
theorem pI_up {g h : Nat → Int64} {s w : Nat → Int32} {k a b p : Nat} {c x : Int32} {z : List Nat} {v : Int64} {bits wt aw : Int} {xa xb ya yb : Int32} (hh : ∀ j, h j = if p = j then v else g j) (ck : pdI p c z k a b = true) (ea : ya = cond (z.contains a) 0 xa) (eb : yb = cond (z.contains b) 0 xb) (H : apin g s w k (abit x.toInt (8 + k)) bits wt xa.toInt aw xb.toInt = true) : apin h s w k (abit (x ||| c).toInt (8 + k)) bits wt ya.toInt aw yb.toInt = true := by
  rw [ab_or]
  simp only [pdI, Bool.or_eq_true, Bool.and_eq_true, Bool.not_eq_true', Bool.or_eq_false_iff, Bool.and_eq_false_imp] at ck
  rcases ck with ⟨c1, c2, c3⟩ | ⟨c1, c2, c3, c4, c5, c6⟩
  · rw [c2] at ea
    rw [c3] at eb
    rw [ea, eb, c1, Bool.or_true]
    exact pi_set
  · rw [c2] at ea
    rw [c3] at eb
    rw [ea, eb, c1, Bool.or_false]
    have n1 : ¬ p = 35 + 4 * k := fun q => by rw [q, Nat.beq_refl] at c4; cases c4
    have n2 : ¬ p = 36 + 4 * k := fun q => by rw [q, Nat.beq_refl] at c5; cases c5
    refine (pi_k (by rw [hh, if_neg n1]) (by rw [hh, if_neg n2]) (fun j h1 h2 => ?_)).trans H
    rw [hh, if_neg]
    intro q
    rw [q] at c6
    have := c6 (Nat.ble_eq.mpr h1)
    rw [Nat.ble_eq.mpr (show j ≤ 54 + 5 * k by omega)] at this
    cases this
theorem pO_up {g h : Nat → Int64} {s w : Nat → Int32} {k a b p : Nat} {c x : Int32} {z : List Nat} {v : Int64} {bits st sy : Int} {xa xb ya yb : Int32} (hh : ∀ j, h j = if p = j then v else g j) (ck : pdO p c z k a b = true) (ea : ya = cond (z.contains a) 0 xa) (eb : yb = cond (z.contains b) 0 xb) (H : apou g s w k (abit x.toInt (12 + k)) bits st xa.toInt sy xb.toInt = true) : apou h s w k (abit (x ||| c).toInt (12 + k)) bits st ya.toInt sy yb.toInt = true := by
  rw [ab_or]
  simp only [pdO, Bool.or_eq_true, Bool.and_eq_true, Bool.not_eq_true', Bool.and_eq_false_imp] at ck
  rcases ck with ⟨c1, c2, c3⟩ | ⟨c1, c2, c3, c6⟩
  · rw [c2] at ea
    rw [c3] at eb
    rw [ea, eb, c1, Bool.or_true]
    exact po_set
  · rw [c2] at ea
    rw [c3] at eb
    rw [ea, eb, c1, Bool.or_false]
    refine (po_k (fun j h1 h2 => ?_)).trans H
    rw [hh, if_neg]
    intro q
    rw [q] at c6
    have := c6 (Nat.ble_eq.mpr h1)
    rw [Nat.ble_eq.mpr (show j ≤ 94 + 5 * k by omega)] at this
    cases this
theorem pA_up {g h : Nat → Int64} {i a p : Nat} {c x : Int32} {z : List Nat} {v : Int64} {aw : Int} {xa ya : Int32} (hh : ∀ j, h j = if p = j then v else g j) (ck : pdA p c z i a = true) (ea : ya = cond (z.contains a) 0 xa) (H : apaw g i (abit x.toInt (2 + i)) aw xa.toInt = true) : apaw h i (abit (x ||| c).toInt (2 + i)) aw ya.toInt = true := by
  rw [ab_or]
  simp only [pdA, Bool.or_eq_true, Bool.and_eq_true, Bool.not_eq_true'] at ck
  rcases ck with ⟨c1, c2⟩ | ⟨c1, c2, c4⟩
  · rw [c2] at ea
    rw [ea, c1, Bool.or_true]
    exact pa_set
  · rw [c2] at ea
    rw [ea, c1, Bool.or_false]
    have n1 : ¬ p = 21 + i := fun q => by rw [q, Nat.beq_refl] at c4; cases c4
    exact (pa_k (by rw [hh, if_neg n1])).trans H
theorem pd_core {X : pX} {ρ ρ3 ρ0 : sR} {M A : List Nat} {p : Nat} {c : Int32} {z : List Nat} {v : Int64} (H : sc X ρ (137, .add (.elem (.arg 1761) (.int 0)) (.add (.arg 2848) (.add (.elem (.arg 24512) (.int 0)) (.add (.elem (.arg 2404) (.int 0)) (.add (.elem (.arg 24544) (.int 0)) (.add (.elem (.arg 2436) (.int 0)) (.add (.arg 5728) (.add (.arg 5760) (.add (.arg 5792) (.add (.arg 5824) (.add (.arg 5856) (.add (.arg 5888) (.add (.arg 5920) (.add (.arg 5952) (.add (.arg 2082) (.add (.arg 2114) (.add (.arg 2146) (.add (.arg 2178) (.add (.arg 6850) (.add (.arg 6882) (.add (.arg 6914) (.add (.arg 6946) (.add (.arg 2210) (.add (.arg 2242) (.add (.arg 2274) (.add (.arg 2306) (.add (.arg 7362) (.add (.arg 7394) (.add (.arg 7426) (.add (.arg 7458) (.add (.arg 2338) (.add (.arg 2370) (.add (.arg 2402) (.add (.arg 2434) (.add (.arg 7874) (.add (.arg 7906) (.add (.arg 7938) (.add (.arg 7970) (.add (.arg 6240) (.add (.arg 6272) (.add (.arg 6304) (.add (.arg 6336) (.add (.arg 21216) (.add (.arg 21248) (.add (.arg 21280) (.add (.arg 21312) (.add (.arg 1570) (.add (.arg 1602) (.add (.arg 6466) (.arg 6498))))))))))))))))))))))))))))))))))))))))))))))))), .int 0) = true) (hA : ∀ j, ρ3.2.2.2.1 1761 j = if p = j then v else ρ.2.2.2.1 1761 j) (y0 : ρ3.1 2848 = ρ.1 2848 ||| c) (y : ∀ u : Nat, u ∈ ([6850, 6882, 6914, 6946, 7362, 7394, 7426, 7458, 7874, 7906, 7938, 7970, 21216, 21248, 21280, 21312, 6466, 6498] : List Nat) → ρ3.1 u = cond (z.contains u) 0 (ρ.1 u)) (a1 : agrM 65536 M A ρ ρ0) (a3 : agrM 65536 M A ρ3 ρ0) (hM : ([5728, 5760, 5792, 5824, 5856, 5888, 5920, 5952, 2082, 2114, 2146, 2178, 2210, 2242, 2274, 2306, 2338, 2370, 2402, 2434, 6240, 6272, 6304, 6336, 1570, 1602] : List Nat).all (fun u => !(M.contains u)) = true) (hB : ([24512, 2404, 24544, 2436] : List Nat).all (fun u => !(A.contains u)) = true) (ck : pdchk p c z = true) : sc X ρ3 (137, .add (.elem (.arg 1761) (.int 0)) (.add (.arg 2848) (.add (.elem (.arg 24512) (.int 0)) (.add (.elem (.arg 2404) (.int 0)) (.add (.elem (.arg 24544) (.int 0)) (.add (.elem (.arg 2436) (.int 0)) (.add (.arg 5728) (.add (.arg 5760) (.add (.arg 5792) (.add (.arg 5824) (.add (.arg 5856) (.add (.arg 5888) (.add (.arg 5920) (.add (.arg 5952) (.add (.arg 2082) (.add (.arg 2114) (.add (.arg 2146) (.add (.arg 2178) (.add (.arg 6850) (.add (.arg 6882) (.add (.arg 6914) (.add (.arg 6946) (.add (.arg 2210) (.add (.arg 2242) (.add (.arg 2274) (.add (.arg 2306) (.add (.arg 7362) (.add (.arg 7394) (.add (.arg 7426) (.add (.arg 7458) (.add (.arg 2338) (.add (.arg 2370) (.add (.arg 2402) (.add (.arg 2434) (.add (.arg 7874) (.add (.arg 7906) (.add (.arg 7938) (.add (.arg 7970) (.add (.arg 6240) (.add (.arg 6272) (.add (.arg 6304) (.add (.arg 6336) (.add (.arg 21216) (.add (.arg 21248) (.add (.arg 21280) (.add (.arg 21312) (.add (.arg 1570) (.add (.arg 1602) (.add (.arg 6466) (.arg 6498))))))))))))))))))))))))))))))))))))))))))))))))), .int 0) = true := by
  have o : ∀ u : Nat, u ∈ ([5728, 5760, 5792, 5824, 5856, 5888, 5920, 5952, 2082, 2114, 2146, 2178, 2210, 2242, 2274, 2306, 2338, 2370, 2402, 2434, 6240, 6272, 6304, 6336, 1570, 1602] : List Nat) → u < 65536 → ρ3.1 u = ρ.1 u := fun u hu h6 => by
    have q := List.all_eq_true.mp hM u hu
    have q : u ∉ M := fun r => by rw [List.contains_iff_mem.mpr r] at q; cases q
    exact (a3.1 u h6 q).1.trans (a1.1 u h6 q).1.symm
  have r : ∀ u : Nat, u ∈ ([24512, 2404, 24544, 2436] : List Nat) → u < 65536 → u % 2 = 0 → ρ3.2.2.1 u = ρ.2.2.1 u := fun u hu h6 h2 => by
    have q := List.all_eq_true.mp hB u hu
    have q : u ∉ A := fun r => by rw [List.contains_iff_mem.mpr r] at q; cases q
    exact (a3.2 u h6 q).1.trans (a1.2 u h6 q).1.symm
  simp only [pdchk, Bool.and_eq_true] at ck
  obtain ⟨c0, c1, c2, c3, c4, c5, c6, c7, c8, c9⟩ := ck
  obtain ⟨⟨⟨h0, i0⟩, ⟨h1, i1⟩, ⟨h2, i2⟩, h3, i3⟩, j0, j1⟩ := pd_iff.mp H
  refine pd_iff.mpr ⟨⟨⟨?_, ?_⟩, ⟨?_, ?_⟩, ⟨?_, ?_⟩, ?_, ?_⟩, ?_, ?_⟩
  · rw [r 24512 (List.mem_cons_self) (by decide) rfl, r 2404 (List.mem_cons_of_mem _ (List.mem_cons_self)) (by decide) rfl, o 5728 (List.mem_cons_self) (by decide), o 2082 (List.mem_cons_of_mem _ (List.mem_cons_of_mem _ (List.mem_cons_of_mem _ (List.mem_cons_of_mem _ (List.mem_cons_of_mem _ (List.mem_cons_of_mem _ (List.mem_cons_of_mem _ (List.mem_cons_of_mem _ (List.mem_cons_self))))))))) (by decide), o 2210 (List.mem_cons_of_mem _ (List.mem_cons_of_mem _ (List.mem_cons_of_mem _ (List.mem_cons_of_mem _ (List.mem_cons_of_mem _ (List.mem_cons_of_mem _ (List.mem_cons_of_mem _ (List.mem_cons_of_mem _ (List.mem_cons_of_mem _ (List.mem_cons_of_mem _ (List.mem_cons_of_mem _ (List.mem_cons_of_mem _ (List.mem_cons_self))))))))))))) (by decide), y0]
    exact pI_up hA c0 (y 6850 (List.mem_cons_self)) (y 7362 (List.mem_cons_of_mem _ (List.mem_cons_of_mem _ (List.mem_cons_of_mem _ (List.mem_cons_of_mem _ (List.mem_cons_self)))))) h0
  · rw [r 24544 (List.mem_cons_of_mem _ (List.mem_cons_of_mem _ (List.mem_cons_self))) (by decide) rfl, r 2436 (List.mem_cons_of_mem _ (List.mem_cons_of_mem _ (List.mem_cons_of_mem _ (List.mem_cons_self)))) (by decide) rfl, o 5856 (List.mem_cons_of_mem _ (List.mem_cons_of_mem _ (List.mem_cons_of_mem _ (List.mem_cons_of_mem _ (List.mem_cons_self))))) (by decide), o 2338 (List.mem_cons_of_mem _ (List.mem_cons_of_mem _ (List.mem_cons_of_mem _ (List.mem_cons_of_mem _ (List.mem_cons_of_mem _ (List.mem_cons_of_mem _ (List.mem_cons_of_mem _ (List.mem_cons_of_mem _ (List.mem_cons_of_mem _ (List.mem_cons_of_mem _ (List.mem_cons_of_mem _ (List.mem_cons_of_mem _ (List.mem_cons_of_mem _ (List.mem_cons_of_mem _ (List.mem_cons_of_mem _ (List.mem_cons_of_mem _ (List.mem_cons_self))))))))))))))))) (by decide), o 6240 (List.mem_cons_of_mem _ (List.mem_cons_of_mem _ (List.mem_cons_of_mem _ (List.mem_cons_of_mem _ (List.mem_cons_of_mem _ (List.mem_cons_of_mem _ (List.mem_cons_of_mem _ (List.mem_cons_of_mem _ (List.mem_cons_of_mem _ (List.mem_cons_of_mem _ (List.mem_cons_of_mem _ (List.mem_cons_of_mem _ (List.mem_cons_of_mem _ (List.mem_cons_of_mem _ (List.mem_cons_of_mem _ (List.mem_cons_of_mem _ (List.mem_cons_of_mem _ (List.mem_cons_of_mem _ (List.mem_cons_of_mem _ (List.mem_cons_of_mem _ (List.mem_cons_self))))))))))))))))))))) (by decide), y0]
    exact pO_up hA c1 (y 7874 (List.mem_cons_of_mem _ (List.mem_cons_of_mem _ (List.mem_cons_of_mem _ (List.mem_cons_of_mem _ (List.mem_cons_of_mem _ (List.mem_cons_of_mem _ (List.mem_cons_of_mem _ (List.mem_cons_of_mem _ (List.mem_cons_self)))))))))) (y 21216 (List.mem_cons_of_mem _ (List.mem_cons_of_mem _ (List.mem_cons_of_mem _ (List.mem_cons_of_mem _ (List.mem_cons_of_mem _ (List.mem_cons_of_mem _ (List.mem_cons_of_mem _ (List.mem_cons_of_mem _ (List.mem_cons_of_mem _ (List.mem_cons_of_mem _ (List.mem_cons_of_mem _ (List.mem_cons_of_mem _ (List.mem_cons_self)))))))))))))) i0
  · rw [r 24512 (List.mem_cons_self) (by decide) rfl, r 2404 (List.mem_cons_of_mem _ (List.mem_cons_self)) (by decide) rfl, o 5760 (List.mem_cons_of_mem _ (List.mem_cons_self)) (by decide), o 2114 (List.mem_cons_of_mem _ (List.mem_cons_of_mem _ (List.mem_cons_of_mem _ (List.mem_cons_of_mem _ (List.mem_cons_of_mem _ (List.mem_cons_of_mem _ (List.mem_cons_of_mem _ (List.mem_cons_of_mem _ (List.mem_cons_of_mem _ (List.mem_cons_self)))))))))) (by decide), o 2242 (List.mem_cons_of_mem _ (List.mem_cons_of_mem _ (List.mem_cons_of_mem _ (List.mem_cons_of_mem _ (List.mem_cons_of_mem _ (List.mem_cons_of_mem _ (List.mem_cons_of_mem _ (List.mem_cons_of_mem _ (List.mem_cons_of_mem _ (List.mem_cons_of_mem _ (List.mem_cons_of_mem _ (List.mem_cons_of_mem _ (List.mem_cons_of_mem _ (List.mem_cons_self)))))))))))))) (by decide), y0]
    exact pI_up hA c2 (y 6882 (List.mem_cons_of_mem _ (List.mem_cons_self))) (y 7394 (List.mem_cons_of_mem _ (List.mem_cons_of_mem _ (List.mem_cons_of_mem _ (List.mem_cons_of_mem _ (List.mem_cons_of_mem _ (List.mem_cons_self))))))) h1
  · rw [r 24544 (List.mem_cons_of_mem _ (List.mem_cons_of_mem _ (List.mem_cons_self))) (by decide) rfl, r 2436 (List.mem_cons_of_mem _ (List.mem_cons_of_mem _ (List.mem_cons_of_mem _ (List.mem_cons_self)))) (by decide) rfl, o 5888 (List.mem_cons_of_mem _ (List.mem_cons_of_mem _ (List.mem_cons_of_mem _ (List.mem_cons_of_mem _ (List.mem_cons_of_mem _ (List.mem_cons_self)))))) (by decide), o 2370 (List.mem_cons_of_mem _ (List.mem_cons_of_mem _ (List.mem_cons_of_mem _ (List.mem_cons_of_mem _ (List.mem_cons_of_mem _ (List.mem_cons_of_mem _ (List.mem_cons_of_mem _ (List.mem_cons_of_mem _ (List.mem_cons_of_mem _ (List.mem_cons_of_mem _ (List.mem_cons_of_mem _ (List.mem_cons_of_mem _ (List.mem_cons_of_mem _ (List.mem_cons_of_mem _ (List.mem_cons_of_mem _ (List.mem_cons_of_mem _ (List.mem_cons_of_mem _ (List.mem_cons_self)))))))))))))))))) (by decide), o 6272 (List.mem_cons_of_mem _ (List.mem_cons_of_mem _ (List.mem_cons_of_mem _ (List.mem_cons_of_mem _ (List.mem_cons_of_mem _ (List.mem_cons_of_mem _ (List.mem_cons_of_mem _ (List.mem_cons_of_mem _ (List.mem_cons_of_mem _ (List.mem_cons_of_mem _ (List.mem_cons_of_mem _ (List.mem_cons_of_mem _ (List.mem_cons_of_mem _ (List.mem_cons_of_mem _ (List.mem_cons_of_mem _ (List.mem_cons_of_mem _ (List.mem_cons_of_mem _ (List.mem_cons_of_mem _ (List.mem_cons_of_mem _ (List.mem_cons_of_mem _ (List.mem_cons_of_mem _ (List.mem_cons_self)))))))))))))))))))))) (by decide), y0]
    exact pO_up hA c3 (y 7906 (List.mem_cons_of_mem _ (List.mem_cons_of_mem _ (List.mem_cons_of_mem _ (List.mem_cons_of_mem _ (List.mem_cons_of_mem _ (List.mem_cons_of_mem _ (List.mem_cons_of_mem _ (List.mem_cons_of_mem _ (List.mem_cons_of_mem _ (List.mem_cons_self))))))))))) (y 21248 (List.mem_cons_of_mem _ (List.mem_cons_of_mem _ (List.mem_cons_of_mem _ (List.mem_cons_of_mem _ (List.mem_cons_of_mem _ (List.mem_cons_of_mem _ (List.mem_cons_of_mem _ (List.mem_cons_of_mem _ (List.mem_cons_of_mem _ (List.mem_cons_of_mem _ (List.mem_cons_of_mem _ (List.mem_cons_of_mem _ (List.mem_cons_of_mem _ (List.mem_cons_self))))))))))))))) i1
  · rw [r 24512 (List.mem_cons_self) (by decide) rfl, r 2404 (List.mem_cons_of_mem _ (List.mem_cons_self)) (by decide) rfl, o 5792 (List.mem_cons_of_mem _ (List.mem_cons_of_mem _ (List.mem_cons_self))) (by decide), o 2146 (List.mem_cons_of_mem _ (List.mem_cons_of_mem _ (List.mem_cons_of_mem _ (List.mem_cons_of_mem _ (List.mem_cons_of_mem _ (List.mem_cons_of_mem _ (List.mem_cons_of_mem _ (List.mem_cons_of_mem _ (List.mem_cons_of_mem _ (List.mem_cons_of_mem _ (List.mem_cons_self))))))))))) (by decide), o 2274 (List.mem_cons_of_mem _ (List.mem_cons_of_mem _ (List.mem_cons_of_mem _ (List.mem_cons_of_mem _ (List.mem_cons_of_mem _ (List.mem_cons_of_mem _ (List.mem_cons_of_mem _ (List.mem_cons_of_mem _ (List.mem_cons_of_mem _ (List.mem_cons_of_mem _ (List.mem_cons_of_mem _ (List.mem_cons_of_mem _ (List.mem_cons_of_mem _ (List.mem_cons_of_mem _ (List.mem_cons_self))))))))))))))) (by decide), y0]
    exact pI_up hA c4 (y 6914 (List.mem_cons_of_mem _ (List.mem_cons_of_mem _ (List.mem_cons_self)))) (y 7426 (List.mem_cons_of_mem _ (List.mem_cons_of_mem _ (List.mem_cons_of_mem _ (List.mem_cons_of_mem _ (List.mem_cons_of_mem _ (List.mem_cons_of_mem _ (List.mem_cons_self)))))))) h2
  · rw [r 24544 (List.mem_cons_of_mem _ (List.mem_cons_of_mem _ (List.mem_cons_self))) (by decide) rfl, r 2436 (List.mem_cons_of_mem _ (List.mem_cons_of_mem _ (List.mem_cons_of_mem _ (List.mem_cons_self)))) (by decide) rfl, o 5920 (List.mem_cons_of_mem _ (List.mem_cons_of_mem _ (List.mem_cons_of_mem _ (List.mem_cons_of_mem _ (List.mem_cons_of_mem _ (List.mem_cons_of_mem _ (List.mem_cons_self))))))) (by decide), o 2402 (List.mem_cons_of_mem _ (List.mem_cons_of_mem _ (List.mem_cons_of_mem _ (List.mem_cons_of_mem _ (List.mem_cons_of_mem _ (List.mem_cons_of_mem _ (List.mem_cons_of_mem _ (List.mem_cons_of_mem _ (List.mem_cons_of_mem _ (List.mem_cons_of_mem _ (List.mem_cons_of_mem _ (List.mem_cons_of_mem _ (List.mem_cons_of_mem _ (List.mem_cons_of_mem _ (List.mem_cons_of_mem _ (List.mem_cons_of_mem _ (List.mem_cons_of_mem _ (List.mem_cons_of_mem _ (List.mem_cons_self))))))))))))))))))) (by decide), o 6304 (List.mem_cons_of_mem _ (List.mem_cons_of_mem _ (List.mem_cons_of_mem _ (List.mem_cons_of_mem _ (List.mem_cons_of_mem _ (List.mem_cons_of_mem _ (List.mem_cons_of_mem _ (List.mem_cons_of_mem _ (List.mem_cons_of_mem _ (List.mem_cons_of_mem _ (List.mem_cons_of_mem _ (List.mem_cons_of_mem _ (List.mem_cons_of_mem _ (List.mem_cons_of_mem _ (List.mem_cons_of_mem _ (List.mem_cons_of_mem _ (List.mem_cons_of_mem _ (List.mem_cons_of_mem _ (List.mem_cons_of_mem _ (List.mem_cons_of_mem _ (List.mem_cons_of_mem _ (List.mem_cons_of_mem _ (List.mem_cons_self))))))))))))))))))))))) (by decide), y0]
    exact pO_up hA c5 (y 7938 (List.mem_cons_of_mem _ (List.mem_cons_of_mem _ (List.mem_cons_of_mem _ (List.mem_cons_of_mem _ (List.mem_cons_of_mem _ (List.mem_cons_of_mem _ (List.mem_cons_of_mem _ (List.mem_cons_of_mem _ (List.mem_cons_of_mem _ (List.mem_cons_of_mem _ (List.mem_cons_self)))))))))))) (y 21280 (List.mem_cons_of_mem _ (List.mem_cons_of_mem _ (List.mem_cons_of_mem _ (List.mem_cons_of_mem _ (List.mem_cons_of_mem _ (List.mem_cons_of_mem _ (List.mem_cons_of_mem _ (List.mem_cons_of_mem _ (List.mem_cons_of_mem _ (List.mem_cons_of_mem _ (List.mem_cons_of_mem _ (List.mem_cons_of_mem _ (List.mem_cons_of_mem _ (List.mem_cons_of_mem _ (List.mem_cons_self)))))))))))))))) i2
  · rw [r 24512 (List.mem_cons_self) (by decide) rfl, r 2404 (List.mem_cons_of_mem _ (List.mem_cons_self)) (by decide) rfl, o 5824 (List.mem_cons_of_mem _ (List.mem_cons_of_mem _ (List.mem_cons_of_mem _ (List.mem_cons_self)))) (by decide), o 2178 (List.mem_cons_of_mem _ (List.mem_cons_of_mem _ (List.mem_cons_of_mem _ (List.mem_cons_of_mem _ (List.mem_cons_of_mem _ (List.mem_cons_of_mem _ (List.mem_cons_of_mem _ (List.mem_cons_of_mem _ (List.mem_cons_of_mem _ (List.mem_cons_of_mem _ (List.mem_cons_of_mem _ (List.mem_cons_self)))))))))))) (by decide), o 2306 (List.mem_cons_of_mem _ (List.mem_cons_of_mem _ (List.mem_cons_of_mem _ (List.mem_cons_of_mem _ (List.mem_cons_of_mem _ (List.mem_cons_of_mem _ (List.mem_cons_of_mem _ (List.mem_cons_of_mem _ (List.mem_cons_of_mem _ (List.mem_cons_of_mem _ (List.mem_cons_of_mem _ (List.mem_cons_of_mem _ (List.mem_cons_of_mem _ (List.mem_cons_of_mem _ (List.mem_cons_of_mem _ (List.mem_cons_self)))))))))))))))) (by decide), y0]
    exact pI_up hA c6 (y 6946 (List.mem_cons_of_mem _ (List.mem_cons_of_mem _ (List.mem_cons_of_mem _ (List.mem_cons_self))))) (y 7458 (List.mem_cons_of_mem _ (List.mem_cons_of_mem _ (List.mem_cons_of_mem _ (List.mem_cons_of_mem _ (List.mem_cons_of_mem _ (List.mem_cons_of_mem _ (List.mem_cons_of_mem _ (List.mem_cons_self))))))))) h3
  · rw [r 24544 (List.mem_cons_of_mem _ (List.mem_cons_of_mem _ (List.mem_cons_self))) (by decide) rfl, r 2436 (List.mem_cons_of_mem _ (List.mem_cons_of_mem _ (List.mem_cons_of_mem _ (List.mem_cons_self)))) (by decide) rfl, o 5952 (List.mem_cons_of_mem _ (List.mem_cons_of_mem _ (List.mem_cons_of_mem _ (List.mem_cons_of_mem _ (List.mem_cons_of_mem _ (List.mem_cons_of_mem _ (List.mem_cons_of_mem _ (List.mem_cons_self)))))))) (by decide), o 2434 (List.mem_cons_of_mem _ (List.mem_cons_of_mem _ (List.mem_cons_of_mem _ (List.mem_cons_of_mem _ (List.mem_cons_of_mem _ (List.mem_cons_of_mem _ (List.mem_cons_of_mem _ (List.mem_cons_of_mem _ (List.mem_cons_of_mem _ (List.mem_cons_of_mem _ (List.mem_cons_of_mem _ (List.mem_cons_of_mem _ (List.mem_cons_of_mem _ (List.mem_cons_of_mem _ (List.mem_cons_of_mem _ (List.mem_cons_of_mem _ (List.mem_cons_of_mem _ (List.mem_cons_of_mem _ (List.mem_cons_of_mem _ (List.mem_cons_self)))))))))))))))))))) (by decide), o 6336 (List.mem_cons_of_mem _ (List.mem_cons_of_mem _ (List.mem_cons_of_mem _ (List.mem_cons_of_mem _ (List.mem_cons_of_mem _ (List.mem_cons_of_mem _ (List.mem_cons_of_mem _ (List.mem_cons_of_mem _ (List.mem_cons_of_mem _ (List.mem_cons_of_mem _ (List.mem_cons_of_mem _ (List.mem_cons_of_mem _ (List.mem_cons_of_mem _ (List.mem_cons_of_mem _ (List.mem_cons_of_mem _ (List.mem_cons_of_mem _ (List.mem_cons_of_mem _ (List.mem_cons_of_mem _ (List.mem_cons_of_mem _ (List.mem_cons_of_mem _ (List.mem_cons_of_mem _ (List.mem_cons_of_mem _ (List.mem_cons_of_mem _ (List.mem_cons_self)))))))))))))))))))))))) (by decide), y0]
    exact pO_up hA c7 (y 7970 (List.mem_cons_of_mem _ (List.mem_cons_of_mem _ (List.mem_cons_of_mem _ (List.mem_cons_of_mem _ (List.mem_cons_of_mem _ (List.mem_cons_of_mem _ (List.mem_cons_of_mem _ (List.mem_cons_of_mem _ (List.mem_cons_of_mem _ (List.mem_cons_of_mem _ (List.mem_cons_of_mem _ (List.mem_cons_self))))))))))))) (y 21312 (List.mem_cons_of_mem _ (List.mem_cons_of_mem _ (List.mem_cons_of_mem _ (List.mem_cons_of_mem _ (List.mem_cons_of_mem _ (List.mem_cons_of_mem _ (List.mem_cons_of_mem _ (List.mem_cons_of_mem _ (List.mem_cons_of_mem _ (List.mem_cons_of_mem _ (List.mem_cons_of_mem _ (List.mem_cons_of_mem _ (List.mem_cons_of_mem _ (List.mem_cons_of_mem _ (List.mem_cons_of_mem _ (List.mem_cons_self))))))))))))))))) i3
  · rw [o 1570 (List.mem_cons_of_mem _ (List.mem_cons_of_mem _ (List.mem_cons_of_mem _ (List.mem_cons_of_mem _ (List.mem_cons_of_mem _ (List.mem_cons_of_mem _ (List.mem_cons_of_mem _ (List.mem_cons_of_mem _ (List.mem_cons_of_mem _ (List.mem_cons_of_mem _ (List.mem_cons_of_mem _ (List.mem_cons_of_mem _ (List.mem_cons_of_mem _ (List.mem_cons_of_mem _ (List.mem_cons_of_mem _ (List.mem_cons_of_mem _ (List.mem_cons_of_mem _ (List.mem_cons_of_mem _ (List.mem_cons_of_mem _ (List.mem_cons_of_mem _ (List.mem_cons_of_mem _ (List.mem_cons_of_mem _ (List.mem_cons_of_mem _ (List.mem_cons_of_mem _ (List.mem_cons_self))))))))))))))))))))))))) (by decide), y0]
    exact pA_up hA c8 (y 6466 (List.mem_cons_of_mem _ (List.mem_cons_of_mem _ (List.mem_cons_of_mem _ (List.mem_cons_of_mem _ (List.mem_cons_of_mem _ (List.mem_cons_of_mem _ (List.mem_cons_of_mem _ (List.mem_cons_of_mem _ (List.mem_cons_of_mem _ (List.mem_cons_of_mem _ (List.mem_cons_of_mem _ (List.mem_cons_of_mem _ (List.mem_cons_of_mem _ (List.mem_cons_of_mem _ (List.mem_cons_of_mem _ (List.mem_cons_of_mem _ (List.mem_cons_self)))))))))))))))))) j0
  · rw [o 1602 (List.mem_cons_of_mem _ (List.mem_cons_of_mem _ (List.mem_cons_of_mem _ (List.mem_cons_of_mem _ (List.mem_cons_of_mem _ (List.mem_cons_of_mem _ (List.mem_cons_of_mem _ (List.mem_cons_of_mem _ (List.mem_cons_of_mem _ (List.mem_cons_of_mem _ (List.mem_cons_of_mem _ (List.mem_cons_of_mem _ (List.mem_cons_of_mem _ (List.mem_cons_of_mem _ (List.mem_cons_of_mem _ (List.mem_cons_of_mem _ (List.mem_cons_of_mem _ (List.mem_cons_of_mem _ (List.mem_cons_of_mem _ (List.mem_cons_of_mem _ (List.mem_cons_of_mem _ (List.mem_cons_of_mem _ (List.mem_cons_of_mem _ (List.mem_cons_of_mem _ (List.mem_cons_of_mem _ (List.mem_cons_self)))))))))))))))))))))))))) (by decide), y0]
    exact pA_up hA c9 (y 6498 (List.mem_cons_of_mem _ (List.mem_cons_of_mem _ (List.mem_cons_of_mem _ (List.mem_cons_of_mem _ (List.mem_cons_of_mem _ (List.mem_cons_of_mem _ (List.mem_cons_of_mem _ (List.mem_cons_of_mem _ (List.mem_cons_of_mem _ (List.mem_cons_of_mem _ (List.mem_cons_of_mem _ (List.mem_cons_of_mem _ (List.mem_cons_of_mem _ (List.mem_cons_of_mem _ (List.mem_cons_of_mem _ (List.mem_cons_of_mem _ (List.mem_cons_of_mem _ (List.mem_cons_self))))))))))))))))))) j1
/-- an entry gets another number, bits of anew are set, what the model keeps of it is cleared -/
theorem pd_up {X : pX} {ρ ρ3 ρ0 : sR} {M A : List Nat} {p : Nat} {c : Int32} {z : List Nat} {v : Int64} (H : sc X ρ (137, .add (.elem (.arg 1761) (.int 0)) (.add (.arg 2848) (.add (.elem (.arg 24512) (.int 0)) (.add (.elem (.arg 2404) (.int 0)) (.add (.elem (.arg 24544) (.int 0)) (.add (.elem (.arg 2436) (.int 0)) (.add (.arg 5728) (.add (.arg 5760) (.add (.arg 5792) (.add (.arg 5824) (.add (.arg 5856) (.add (.arg 5888) (.add (.arg 5920) (.add (.arg 5952) (.add (.arg 2082) (.add (.arg 2114) (.add (.arg 2146) (.add (.arg 2178) (.add (.arg 6850) (.add (.arg 6882) (.add (.arg 6914) (.add (.arg 6946) (.add (.arg 2210) (.add (.arg 2242) (.add (.arg 2274) (.add (.arg 2306) (.add (.arg 7362) (.add (.arg 7394) (.add (.arg 7426) (.add (.arg 7458) (.add (.arg 2338) (.add (.arg 2370) (.add (.arg 2402) (.add (.arg 2434) (.add (.arg 7874) (.add (.arg 7906) (.add (.arg 7938) (.add (.arg 7970) (.add (.arg 6240) (.add (.arg 6272) (.add (.arg 6304) (.add (.arg 6336) (.add (.arg 21216) (.add (.arg 21248) (.add (.arg 21280) (.add (.arg 21312) (.add (.arg 1570) (.add (.arg 1602) (.add (.arg 6466) (.arg 6498))))))))))))))))))))))))))))))))))))))))))))))))), .int 0) = true) (hA : ∀ j, ρ3.2.2.2.1 1761 j = if p = j then v else ρ.2.2.2.1 1761 j) (hm : ∀ x ∈ wsP c z, sd X ρ3 (.arg x.1) = sd X ρ x.2) (a1 : agrM 65536 M A ρ ρ0) (a3 : agrM 65536 M A ρ3 ρ0) (hM : ([5728, 5760, 5792, 5824, 5856, 5888, 5920, 5952, 2082, 2114, 2146, 2178, 2210, 2242, 2274, 2306, 2338, 2370, 2402, 2434, 6240, 6272, 6304, 6336, 1570, 1602] : List Nat).all (fun u => !(M.contains u)) = true) (hB : ([24512, 2404, 24544, 2436] : List Nat).all (fun u => !(A.contains u)) = true) (ck : pdchk p c z = true) : sc X ρ3 (137, .add (.elem (.arg 1761) (.int 0)) (.add (.arg 2848) (.add (.elem (.arg 24512) (.int 0)) (.add (.elem (.arg 2404) (.int 0)) (.add (.elem (.arg 24544) (.int 0)) (.add (.elem (.arg 2436) (.int 0)) (.add (.arg 5728) (.add (.arg 5760) (.add (.arg 5792) (.add (.arg 5824) (.add (.arg 5856) (.add (.arg 5888) (.add (.arg 5920) (.add (.arg 5952) (.add (.arg 2082) (.add (.arg 2114) (.add (.arg 2146) (.add (.arg 2178) (.add (.arg 6850) (.add (.arg 6882) (.add (.arg 6914) (.add (.arg 6946) (.add (.arg 2210) (.add (.arg 2242) (.add (.arg 2274) (.add (.arg 2306) (.add (.arg 7362) (.add (.arg 7394) (.add (.arg 7426) (.add (.arg 7458) (.add (.arg 2338) (.add (.arg 2370) (.add (.arg 2402) (.add (.arg 2434) (.add (.arg 7874) (.add (.arg 7906) (.add (.arg 7938) (.add (.arg 7970) (.add (.arg 6240) (.add (.arg 6272) (.add (.arg 6304) (.add (.arg 6336) (.add (.arg 21216) (.add (.arg 21248) (.add (.arg 21280) (.add (.arg 21312) (.add (.arg 1570) (.add (.arg 1602) (.add (.arg 6466) (.arg 6498))))))))))))))))))))))))))))))))))))))))))))))))), .int 0) = true :=
  pd_core H hA (congrArg Prod.fst (hm _ List.mem_cons_self)) (fun u hu => co_t (hm (u, cond (z.contains u) (.int 0) (.arg u)) (List.mem_cons_of_mem _ (List.mem_map.mpr ⟨u, hu, rfl⟩)))) a1 a3 hM hB ck
/-- ... where nothing of it changes -/
noncomputable def wsN : List (Nat × sT) := (2848, .arg 2848) :: ([6850, 6882, 6914, 6946, 7362, 7394, 7426, 7458, 7874, 7906, 7938, 7970, 21216, 21248, 21280, 21312, 6466, 6498] : List Nat).map (fun v => (v, .arg v))
theorem pd_un {X : pX} {ρ ρ3 ρ0 : sR} {M A : List Nat} {p : Nat} {v : Int64} (H : sc X ρ (137, .add (.elem (.arg 1761) (.int 0)) (.add (.arg 2848) (.add (.elem (.arg 24512) (.int 0)) (.add (.elem (.arg 2404) (.int 0)) (.add (.elem (.arg 24544) (.int 0)) (.add (.elem (.arg 2436) (.int 0)) (.add (.arg 5728) (.add (.arg 5760) (.add (.arg 5792) (.add (.arg 5824) (.add (.arg 5856) (.add (.arg 5888) (.add (.arg 5920) (.add (.arg 5952) (.add (.arg 2082) (.add (.arg 2114) (.add (.arg 2146) (.add (.arg 2178) (.add (.arg 6850) (.add (.arg 6882) (.add (.arg 6914) (.add (.arg 6946) (.add (.arg 2210) (.add (.arg 2242) (.add (.arg 2274) (.add (.arg 2306) (.add (.arg 7362) (.add (.arg 7394) (.add (.arg 7426) (.add (.arg 7458) (.add (.arg 2338) (.add (.arg 2370) (.add (.arg 2402) (.add (.arg 2434) (.add (.arg 7874) (.add (.arg 7906) (.add (.arg 7938) (.add (.arg 7970) (.add (.arg 6240) (.add (.arg 6272) (.add (.arg 6304) (.add (.arg 6336) (.add (.arg 21216) (.add (.arg 21248) (.add (.arg 21280) (.add (.arg 21312) (.add (.arg 1570) (.add (.arg 1602) (.add (.arg 6466) (.arg 6498))))))))))))))))))))))))))))))))))))))))))))))))), .int 0) = true) (hA : ∀ j, ρ3.2.2.2.1 1761 j = if p = j then v else ρ.2.2.2.1 1761 j) (hm : ∀ x ∈ wsN, sd X ρ3 (.arg x.1) = sd X ρ x.2) (a1 : agrM 65536 M A ρ ρ0) (a3 : agrM 65536 M A ρ3 ρ0) (hM : ([5728, 5760, 5792, 5824, 5856, 5888, 5920, 5952, 2082, 2114, 2146, 2178, 2210, 2242, 2274, 2306, 2338, 2370, 2402, 2434, 6240, 6272, 6304, 6336, 1570, 1602] : List Nat).all (fun u => !(M.contains u)) = true) (hB : ([24512, 2404, 24544, 2436] : List Nat).all (fun u => !(A.contains u)) = true) (ck : pdchk p 0 [] = true) : sc X ρ3 (137, .add (.elem (.arg 1761) (.int 0)) (.add (.arg 2848) (.add (.elem (.arg 24512) (.int 0)) (.add (.elem (.arg 2404) (.int 0)) (.add (.elem (.arg 24544) (.int 0)) (.add (.elem (.arg 2436) (.int 0)) (.add (.arg 5728) (.add (.arg 5760) (.add (.arg 5792) (.add (.arg 5824) (.add (.arg 5856) (.add (.arg 5888) (.add (.arg 5920) (.add (.arg 5952) (.add (.arg 2082) (.add (.arg 2114) (.add (.arg 2146) (.add (.arg 2178) (.add (.arg 6850) (.add (.arg 6882) (.add (.arg 6914) (.add (.arg 6946) (.add (.arg 2210) (.add (.arg 2242) (.add (.arg 2274) (.add (.arg 2306) (.add (.arg 7362) (.add (.arg 7394) (.add (.arg 7426) (.add (.arg 7458) (.add (.arg 2338) (.add (.arg 2370) (.add (.arg 2402) (.add (.arg 2434) (.add (.arg 7874) (.add (.arg 7906) (.add (.arg 7938) (.add (.arg 7970) (.add (.arg 6240) (.add (.arg 6272) (.add (.arg 6304) (.add (.arg 6336) (.add (.arg 21216) (.add (.arg 21248) (.add (.arg 21280) (.add (.arg 21312) (.add (.arg 1570) (.add (.arg 1602) (.add (.arg 6466) (.arg 6498))))))))))))))))))))))))))))))))))))))))))))))))), .int 0) = true :=
  pd_core (c := 0) (z := []) H hA (by rw [Int32.or_zero]; exact congrArg Prod.fst (hm _ List.mem_cons_self)) (fun u hu => congrArg Prod.fst (hm (u, .arg u) (List.mem_cons_of_mem _ (List.mem_map.mpr ⟨u, hu, rfl⟩)))) a1 a3 hM hB ck
theorem evm_c {g h : Nat → Int64} {m : Nat} (hm : h m = g m) (hn : (g m).toInt.toNat ≤ 4) (he : ∀ i, i < 4 → h (m + 1 + i) = g (m + 1 + i)) : evm h m = evm g m := by
  unfold evm
  rw [hm]
  have f2 : (List.range (g m).toInt.toNat).map (fun i => (h (m + 1 + i)).toInt % 256) = (List.range (g m).toInt.toNat).map (fun i => (g (m + 1 + i)).toInt % 256) := List.map_congr_left (fun i hi => by rw [he i (by have := List.mem_range.mp hi; omega)])
  have f1 : (List.range (g m).toInt.toNat).all (fun i => !(decide ((h (m + 1 + i)).toInt = 0))) = (List.range (g m).toInt.toNat).all (fun i => !(decide ((g (m + 1 + i)).toInt = 0))) := by
    apply Bool.eq_iff_iff.mpr
    simp only [List.all_eq_true]
    constructor
    · intro H x hx
      have := H x hx
      rw [he x (by have := List.mem_range.mp hx; omega)] at this
      exact this
    · intro H x hx
      have := H x hx
      rw [he x (by have := List.mem_range.mp hx; omega)]
      exact this
  rw [f1, f2]
theorem et_m : ([50, 55, 60, 65, 90, 95, 100, 105] : List Nat).all (fun m => decide (evt[m]? = some (0, 4, 0))) = true := by decide +kernel
/-- an entry gets another valid number: the maps that it belongs to are valid then -/
theorem ev_gen {g h : Nat → Int64} (hg : evall g = true) {p : Nat} {v : Int64} (hv : evk p v.toInt = true) (hh : ∀ j, h j = if p = j then v else g j) (hq : ∀ m : Nat, m ≤ p → p ≤ m + 4 → m ∈ ([50, 55, 60, 65, 90, 95, 100, 105] : List Nat) → evm h m = true) : evall h = true := by
  have hg' := hg
  simp only [evall, Bool.and_eq_true, List.all_eq_true] at hg ⊢
  refine ⟨fun k hk => ?_, fun m hm => ?_⟩
  · rw [hh k]
    by_cases e : p = k
    · rw [if_pos e, ← e]; exact hv
    · rw [if_neg e]; exact hg.1 k hk
  · by_cases hp : m ≤ p ∧ p ≤ m + 4
    · exact hq m hp.1 hp.2 hm
    have hm4 : m ≤ 105 := by
      simp only [List.mem_cons, List.not_mem_nil, or_false] at hm
      omega
    have e4 := of_decide_eq_true (List.all_eq_true.mp et_m m hm)
    have b := (se_b hg' m e4 (by omega)).2.1
    rw [evm_c (g := g) (by rw [hh m, if_neg (by omega)]) (by omega) (fun i hi => by rw [hh (m + 1 + i), if_neg (by omega)])]
    exact hg.2 m hm
/-- a row of a map that counts nothing -/
theorem ev_row {g h : Nat → Int64} (hg : evall g = true) {m p : Nat} {v : Int64} (hp : m < p) (hv : evk p v.toInt = true) (hh : ∀ j, h j = if p = j then v else g j) (h0 : g m = 0) (hu : ∀ q : Nat, q ≤ p → p ≤ q + 4 → q ∈ ([50, 55, 60, 65, 90, 95, 100, 105] : List Nat) → q = m) : evall h = true := by
  refine ev_gen hg hv hh (fun q h1 h2 h3 => ?_)
  rw [hu q h1 h2 h3]
  unfold evm
  rw [hh m, if_neg (by omega), h0]
  rfl
/-- a map that counts others -/
theorem ev_cnt {g h : Nat → Int64} (hg : evall g = true) {m : Nat} {v : Int64} (hv : evk m v.toInt = true) (hh : ∀ j, h j = if m = j then v else g j) (hc : amcode g m v.toInt.toNat = 0) (hu : ∀ q : Nat, q ≤ m → m ≤ q + 4 → q ∈ ([50, 55, 60, 65, 90, 95, 100, 105] : List Nat) → q = m) : evall h = true := by
  refine ev_gen hg hv hh (fun q h1 h2 h3 => ?_)
  rw [hu q h1 h2 h3]
  unfold evm
  have e0 : h m = v := by rw [hh m, if_pos rfl]
  have e1 : ∀ i : Nat, h (m + 1 + i) = g (m + 1 + i) := fun i => by rw [hh, if_neg (by omega)]
  rw [e0]
  simp only [e1]
  unfold amcode at hc
  split at hc
  · next hz =>
    split at hc
    · next hs => rw [hz, decide_eq_true hs]; rfl
    · cases hc
  · cases hc
noncomputable def evin (p q : Nat) : Bool := Nat.ble q p && Nat.ble p (q + 4)
noncomputable def evmaps : List Nat := [50, 55, 60, 65, 90, 95, 100, 105]
/-- an entry of no map -/
theorem ev_nm {g h : Nat → Int64} (hg : evall g = true) {p : Nat} {v : Int64} (hv : evk p v.toInt = true) (hh : ∀ j, h j = if p = j then v else g j) (ck : evmaps.all (fun q => !(evin p q)) = true) : evall h = true := by
  refine ev_gen hg hv hh (fun m h1 h2 h3 => ?_)
  have := List.all_eq_true.mp ck m h3
  unfold evin at this
  rw [Nat.ble_eq.mpr h1, Nat.ble_eq.mpr h2] at this
  cases this
theorem ev_rw {g h : Nat → Int64} (hg : evall g = true) {m p : Nat} {v : Int64} (hp : m < p) (hv : evk p v.toInt = true) (hh : ∀ j, h j = if p = j then v else g j) (h0 : g m = 0) (ck : evmaps.all (fun q => !(evin p q) || Nat.beq q m) = true) : evall h = true := by
  refine ev_row hg hp hv hh h0 (fun q h1 h2 h3 => ?_)
  have := List.all_eq_true.mp ck q h3
  unfold evin at this
  rw [Nat.ble_eq.mpr h1, Nat.ble_eq.mpr h2] at this
  exact Nat.eq_of_beq_eq_true this
theorem ev_ct {g h : Nat → Int64} (hg : evall g = true) {m : Nat} {v : Int64} (hv : evk m v.toInt = true) (hh : ∀ j, h j = if m = j then v else g j) (hc : amcode g m v.toInt.toNat = 0) (ck : evmaps.all (fun q => !(evin m q) || Nat.beq q m) = true) : evall h = true := by
  refine ev_cnt hg hv hh hc (fun q h1 h2 h3 => ?_)
  have := List.all_eq_true.mp ck q h3
  unfold evin at this
  rw [Nat.ble_eq.mpr h1, Nat.ble_eq.mpr h2] at this
  exact Nat.eq_of_beq_eq_true this
theorem ad_l {X : pX} {ρ ρ3 : sR} {p : Int32} {t : sT} (ht : sk t = 1) (h : ∀ j, bden X ρ3 (.arg 1761) j = aden X ρ (.arg 1761) [(.int p, t)] j) (j : Nat) : ρ3.2.2.2.1 1761 j = if p.toNatClampNeg = j then (sd X ρ t).2 else ρ.2.2.2.1 1761 j := by
  have e := h j
  simp only [aden] at e
  have b1 : bden X ρ3 (.arg 1761) j = .long (ρ3.2.2.2.1 1761 j) := by unfold bden; rfl
  have b2 : bden X ρ (.arg 1761) j = .long (ρ.2.2.2.1 1761 j) := by unfold bden; rfl
  rw [b1, b2, sv_long ht] at e
  by_cases q : p.toNatClampNeg = j
  · have q' : (sd X ρ (.int p)).1.toNatClampNeg = j := q
    rw [if_pos q'] at e
    rw [if_pos q]
    exact Value.long.inj e
  · have q' : ¬ (sd X ρ (.int p)).1.toNatClampNeg = j := q
    rw [if_neg q'] at e
    rw [if_neg q]
    exact Value.long.inj e

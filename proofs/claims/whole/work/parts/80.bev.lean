/-! ===== bounds of the entries ===== -/
theorem ev_b {g : Nat → Int64} (h : evall g = true) (k : Nat) {lo hi : Int} {s : Nat} (he : evt[k]? = some (lo, hi, s)) (hk : k < 156) : lo ≤ (g k).toInt ∧ (g k).toInt ≤ hi ∧ evs s (g k).toInt = true := by
  simp only [evall, Bool.and_eq_true, List.all_eq_true] at h
  have h1 := h.1 k (List.mem_range.mpr hk)
  unfold evk at h1
  rw [he] at h1
  simp only [Bool.and_eq_true, decide_eq_true_eq] at h1
  exact ⟨h1.1, h1.2.1, h1.2.2⟩
theorem ev_lo {X : pX} {ρ : sR} (h : sc X ρ (101, .elem (.arg 1761) (.int 0), .int 0) = true) (k : Int32) (v : Int64) {lo hi : Int} {s : Nat} (he : evt[k.toNatClampNeg]? = some (lo, hi, s)) (hv : v.toInt ≤ lo) (hk : k.toNatClampNeg < 156) : sc X ρ (8, .elem (.arg 1761) (.int k), .long v) = false := by
  have h1 := (ev_b (g := ρ.2.2.2.1 1761) h k.toNatClampNeg he hk).1
  exact decide_eq_false (nlt_l (show v.toInt ≤ (ρ.2.2.2.1 1761 k.toNatClampNeg).toInt by omega))
theorem ev_hi {X : pX} {ρ : sR} (h : sc X ρ (101, .elem (.arg 1761) (.int 0), .int 0) = true) (k : Int32) (v : Int64) {lo hi : Int} {s : Nat} (he : evt[k.toNatClampNeg]? = some (lo, hi, s)) (hv : hi ≤ v.toInt) (hk : k.toNatClampNeg < 156) : sc X ρ (8, .long v, .elem (.arg 1761) (.int k)) = false := by
  have h1 := (ev_b (g := ρ.2.2.2.1 1761) h k.toNatClampNeg he hk).2.1
  exact decide_eq_false (nlt_l (show (ρ.2.2.2.1 1761 k.toNatClampNeg).toInt ≤ v.toInt by omega))
theorem ev_in {X : pX} {ρ : sR} (h : sc X ρ (101, .elem (.arg 1761) (.int 0), .int 0) = true) (k : Nat) {lo hi : Int} {s : Nat} (he : evt[k]? = some (lo, hi, s)) (hk : k < 156) : evs s (ρ.2.2.2.1 1761 k).toInt = true := (ev_b (g := ρ.2.2.2.1 1761) h k he hk).2.2
theorem ev_ne {x v : Int64} {l : List Int} (h : l.contains x.toInt = true) (hv : l.contains v.toInt = false) : ¬ x = v := fun e => by
  rw [e, hv] at h
  cases h
theorem ev_slo {x v : Int64} {l : List Int} (h : l.contains x.toInt = true) (hl : l.all (fun y => decide (v.toInt ≤ y)) = true) : ¬ x < v := by
  have h : x.toInt ∈ l := by simpa using h
  have := of_decide_eq_true (List.all_eq_true.mp hl _ h)
  exact nlt_l this
theorem ev_shi {x v : Int64} {l : List Int} (h : l.contains x.toInt = true) (hl : l.all (fun y => decide (y ≤ v.toInt)) = true) : ¬ v < x := by
  have h : x.toInt ∈ l := by simpa using h
  have := of_decide_eq_true (List.all_eq_true.mp hl _ h)
  exact nlt_l this
/-- the mode that is wanted -/
theorem ev_mode {X : pX} {ρ : sR} (h : sc X ρ (101, .elem (.arg 1761) (.int 0), .int 0) = true) (h1 : ¬ ρ.2.2.2.1 1761 122 = -1) (h2 : ¬ ρ.2.2.2.1 1761 122 = 0) (h3 : ¬ ρ.2.2.2.1 1761 122 = 1) (h4 : ¬ ρ.2.2.2.1 1761 122 = 3) (h5 : ¬ ρ.2.2.2.1 1761 122 = 6) : ρ.2.2.2.1 1761 122 = 8 := by
  have h9 : ([-1, 0, 1, 3, 6, 8] : List Int).contains (ρ.2.2.2.1 1761 122).toInt = true := ev_in h 122 rfl (by decide)
  have h9 : (ρ.2.2.2.1 1761 122).toInt ∈ ([-1, 0, 1, 3, 6, 8] : List Int) := by simpa using h9
  simp only [List.mem_cons, List.not_mem_nil, or_false] at h9
  rcases h9 with e | e | e | e | e | e
  · exact absurd (Int64.toInt_inj.mp (e.trans (by decide : (-1 : Int) = (-1 : Int64).toInt))) h1
  · exact absurd (Int64.toInt_inj.mp (e.trans (by decide : (0 : Int) = (0 : Int64).toInt))) h2
  · exact absurd (Int64.toInt_inj.mp (e.trans (by decide : (1 : Int) = (1 : Int64).toInt))) h3
  · exact absurd (Int64.toInt_inj.mp (e.trans (by decide : (3 : Int) = (3 : Int64).toInt))) h4
  · exact absurd (Int64.toInt_inj.mp (e.trans (by decide : (6 : Int) = (6 : Int64).toInt))) h5
  · exact Int64.toInt_inj.mp (e.trans (by decide : (8 : Int) = (8 : Int64).toInt))
/-- the homing method -/
theorem ev_meth {X : pX} {ρ : sR} (h : sc X ρ (101, .elem (.arg 1761) (.int 0), .int 0) = true) (h1 : ¬ (ρ.2.2.2.1 1761 142).toInt32 = 0) (h2 : ¬ (ρ.2.2.2.1 1761 142).toInt32 = 17) (h3 : ¬ (ρ.2.2.2.1 1761 142).toInt32 = 35) : (ρ.2.2.2.1 1761 142).toInt32 = 18 := by
  have h9 : ([0, 17, 18, 35] : List Int).contains (ρ.2.2.2.1 1761 142).toInt = true := ev_in h 142 rfl (by decide)
  have h9 : (ρ.2.2.2.1 1761 142).toInt ∈ ([0, 17, 18, 35] : List Int) := by simpa using h9
  simp only [List.mem_cons, List.not_mem_nil, or_false] at h9
  rcases h9 with e | e | e | e
  · rw [Int64.toInt_inj.mp (e.trans (by decide : (0 : Int) = (0 : Int64).toInt))] at h1; exact absurd (by decide) h1
  · rw [Int64.toInt_inj.mp (e.trans (by decide : (17 : Int) = (17 : Int64).toInt))] at h2; exact absurd (by decide) h2
  · rw [Int64.toInt_inj.mp (e.trans (by decide : (18 : Int) = (18 : Int64).toInt))]; decide
  · rw [Int64.toInt_inj.mp (e.trans (by decide : (35 : Int) = (35 : Int64).toInt))] at h3; exact absurd (by decide) h3
noncomputable def c_turnn0 : sC := (c_turn0.1, c_turn0.2.1, c_turn0.2.2.1, [((101, .elem (.arg 1761) (.int 0), .int 0), true), ((2, .arg 2816, .int 1), false), ((2, .int 7, .arg 2816), false), ((0, .arg 2050, .int 0), true), ((0, .arg 5570, .int 0), true), ((100, .elem (.arg 2944) (.int 0), .arg 1318), true), ((104, .add (.arg 6625) (.add (.arg 7041) (.elem (.arg 2944) (.int 0))), .arg 1318), true), ((0, .arg 2816, .arg 60160), true)], c_turn0.2.2.2.2.1, c_turn0.2.2.2.2.2.1, c_turn0.2.2.2.2.2.2.1, ([([((0, .arg 2816, .int 4), true)], (0, .arg 3232, .arg 1340), true), ([((0, .arg 2816, .int 4), false)], (0, .arg 1340, .int 0), true), ([((0, .arg 2816, .int 4), true)], (0, .arg 64000, .int 4), true)], c_turn0.2.2.2.2.2.2.2.2))
theorem s_turnn0 {X : pX} : SREL X pF pdfl mt_all kR zVP c_turnn0 := SREL_mono s_turn0
  (fun ρ hF hI => by
    have h0 : sc X ρ (101, .elem (.arg 1761) (.int 0), .int 0) = true := hF.2 _ List.mem_cons_self
    refine ⟨⟨hF.1, ?_⟩, ?_⟩
    · exact fa_cons (hF.2 _ (List.mem_cons_of_mem _ (List.mem_cons_self))) (fa_cons (hF.2 _ (List.mem_cons_of_mem _ (List.mem_cons_of_mem _ (List.mem_cons_self)))) (fa_cons (hF.2 _ (List.mem_cons_of_mem _ (List.mem_cons_of_mem _ (List.mem_cons_of_mem _ (List.mem_cons_self))))) (fa_cons (hF.2 _ (List.mem_cons_of_mem _ (List.mem_cons_of_mem _ (List.mem_cons_of_mem _ (List.mem_cons_of_mem _ (List.mem_cons_self)))))) (fa_cons (hF.2 _ (List.mem_cons_of_mem _ (List.mem_cons_of_mem _ (List.mem_cons_of_mem _ (List.mem_cons_of_mem _ (List.mem_cons_of_mem _ (List.mem_cons_self))))))) (fa_cons (hF.2 _ (List.mem_cons_of_mem _ (List.mem_cons_of_mem _ (List.mem_cons_of_mem _ (List.mem_cons_of_mem _ (List.mem_cons_of_mem _ (List.mem_cons_of_mem _ (List.mem_cons_self)))))))) (fa_cons (decide_eq_false (ev_slo (x := ρ.2.2.2.1 1761 117) (v := 0) (l := [0, 1, 2, 5, 6]) (ev_in h0 117 rfl (by decide)) (by decide))) (fa_cons (decide_eq_false (ev_shi (x := ρ.2.2.2.1 1761 117) (v := 6) (l := [0, 1, 2, 5, 6]) (ev_in h0 117 rfl (by decide)) (by decide))) (fa_cons (decide_eq_false (ev_ne (x := ρ.2.2.2.1 1761 117) (v := 3) (l := [0, 1, 2, 5, 6]) (ev_in h0 117 rfl (by decide)) (by decide))) (fa_cons (decide_eq_false (ev_ne (x := ρ.2.2.2.1 1761 117) (v := 4) (l := [0, 1, 2, 5, 6]) (ev_in h0 117 rfl (by decide)) (by decide))) (fa_cons (hF.2 _ (List.mem_cons_of_mem _ (List.mem_cons_of_mem _ (List.mem_cons_of_mem _ (List.mem_cons_of_mem _ (List.mem_cons_of_mem _ (List.mem_cons_of_mem _ (List.mem_cons_of_mem _ (List.mem_cons_self))))))))) (fa_nil)))))))))))
    · intro q hq
      simp only [c_turn0, List.mem_cons, List.not_mem_nil, or_false, List.append_nil, List.cons_append, List.nil_append] at hq
      rcases hq with rfl | rfl | rfl
      · exact hI _ (List.mem_cons_self)
      · exact hI _ (List.mem_cons_of_mem _ (List.mem_cons_self))
      · exact hI _ (List.mem_cons_of_mem _ (List.mem_cons_of_mem _ (List.mem_cons_self)))
)
  (fun ρ hF hI => ⟨hF, hI⟩)

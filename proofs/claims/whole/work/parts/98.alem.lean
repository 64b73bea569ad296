set_option maxRecDepth 20000
/-! ===== the status word as a function ===== -/
theorem dl_lt {x y : Int64} (h : x.toInt < y.toInt) : decide (x < y) = true := decide_eq_true (Int64.lt_iff_toInt_lt.mpr h)
theorem dl_lf {x y : Int64} (h : y.toInt ≤ x.toInt) : decide (x < y) = false := decide_eq_false (fun q => by have := Int64.lt_iff_toInt_lt.mp q; omega)
theorem dl_et {x y : Int64} (h : x.toInt = y.toInt) : decide (x = y) = true := decide_eq_true (Int64.toInt_inj.mp h)
theorem dl_ef {x y : Int64} (h : ¬ x.toInt = y.toInt) : decide (x = y) = false := decide_eq_false (fun q => h (congrArg Int64.toInt q))
theorem di_lt {x y : Int32} (h : x.toInt < y.toInt) : decide (x < y) = true := decide_eq_true (Int32.lt_iff_toInt_lt.mpr h)
theorem di_lf {x y : Int32} (h : y.toInt ≤ x.toInt) : decide (x < y) = false := decide_eq_false (fun q => by have := Int32.lt_iff_toInt_lt.mp q; omega)
theorem di_et {x y : Int32} (h : x.toInt = y.toInt) : decide (x = y) = true := decide_eq_true (Int32.toInt_inj.mp h)
theorem di_ef {x y : Int32} (h : ¬ x.toInt = y.toInt) : decide (x = y) = false := decide_eq_false (fun q => h (congrArg Int32.toInt q))
theorem rl_lt {x y : Int64} (h : decide (x < y) = true) : x.toInt < y.toInt := Int64.lt_iff_toInt_lt.mp (of_decide_eq_true h)
theorem rl_lf {x y : Int64} (h : decide (x < y) = false) : y.toInt ≤ x.toInt := Int.not_lt.mp (fun q => of_decide_eq_false h (Int64.lt_iff_toInt_lt.mpr q))
theorem rl_et {x y : Int64} (h : decide (x = y) = true) : x.toInt = y.toInt := congrArg Int64.toInt (of_decide_eq_true h)
theorem rl_ef {x y : Int64} (h : decide (x = y) = false) : ¬ x.toInt = y.toInt := fun q => of_decide_eq_false h (Int64.toInt_inj.mp q)
theorem ri_lt {x y : Int32} (h : decide (x < y) = true) : x.toInt < y.toInt := Int32.lt_iff_toInt_lt.mp (of_decide_eq_true h)
theorem ri_lf {x y : Int32} (h : decide (x < y) = false) : y.toInt ≤ x.toInt := Int.not_lt.mp (fun q => of_decide_eq_false h (Int32.lt_iff_toInt_lt.mpr q))
theorem ri_et {x y : Int32} (h : decide (x = y) = true) : x.toInt = y.toInt := congrArg Int32.toInt (of_decide_eq_true h)
theorem ri_ef {x y : Int32} (h : decide (x = y) = false) : ¬ x.toInt = y.toInt := fun q => of_decide_eq_false h (Int32.toInt_inj.mp q)
theorem ik_n {X : pX} {ρ : sR} : iok X ρ [] := fun q hq => by cases hq
theorem ik_c {X : pX} {ρ : sR} {q : sFs × sQ × Bool} {I : sI} (h : fall X ρ q.1 → sc X ρ q.2.1 = q.2.2) (hI : iok X ρ I) : iok X ρ (q :: I) := fun r hr => by
  rcases List.mem_cons.mp hr with hr | hr
  · rw [hr]; exact h
  · exact hI r hr
/-- an entry's number lies between -/
theorem se_b {g : Nat → Int64} (h : evall g = true) (k : Nat) {lo hi : Int} {s : Nat} (he : evt[k]? = some (lo, hi, s)) (hk : k < 156) : lo ≤ (g k).toInt ∧ (g k).toInt ≤ hi ∧ evs s (g k).toInt = true := by
  simp only [evall, Bool.and_eq_true, List.all_eq_true] at h
  have h1 := h.1 k (List.mem_range.mpr hk)
  unfold evk at h1
  rw [he] at h1
  simp only [Bool.and_eq_true, decide_eq_true_eq] at h1
  exact ⟨h1.1, h1.2.1, h1.2.2⟩
theorem st_mk {X : pX} {ρ : sR} (c : Int32) (pw md : Int) {op nr t3 l3 s0 t8 go b12 b13 : Bool} (h1 : (ρ.1 2816).toInt = pw) (h2 : decide ((ρ.1 2784).toInt = 5) = op) (h3 : (ρ.2.1 7073).toInt = md) (h4 : (decide (1 ≤ (ρ.1 3008).toInt) && decide ((ρ.2.2.2.1 1761 129).toInt ≤ (ρ.1 3008).toInt)) = nr) (h5 : decide ((ρ.2.1 1665).toInt = awant (ρ.2.2.2.1 1761)) = t3) (h6 : (!(decide (awant (ρ.2.2.2.1 1761) = 0)) && (decide ((ρ.2.1 1665).toInt = 0) && decide ((ρ.2.1 1633).toInt = 1000000 * aedge (ρ.2.2.2.1 1761) (decide (0 < awant (ρ.2.2.2.1 1761)))))) = l3) (h7 : decide ((ρ.2.1 1665).toInt = 0) = s0) (h8 : (decide ((ρ.2.1 1665).toInt = 0) && decide ((ρ.2.1 1633).toInt = 1000000 * acut (ρ.2.2.2.1 1761) (ρ.2.2.2.1 1761 132).toInt)) = t8) (h9 : (!(decide ((ρ.1 2018).toInt = 0))) = go) (h10 : (!(decide ((ρ.1 1954).toInt = 0))) = b12) (h11 : (!(decide ((ρ.1 1986).toInt = 0))) = b13) (h : c.toInt = astatb pw (cond op 5 0) md nr t3 l3 s0 t8 go b12 b13) : sc X ρ (132, .add (.elem (.arg 1761) (.int 0)) (.add (.arg 2816) (.add (.arg 2784) (.add (.arg 1665) (.add (.arg 1633) (.add (.arg 7073) (.add (.arg 3008) (.add (.arg 2018) (.add (.arg 1954) (.arg 1986))))))))), .int c) = true := by
  have e : astat (aits X ρ (.add (.elem (.arg 1761) (.int 0)) (.add (.arg 2816) (.add (.arg 2784) (.add (.arg 1665) (.add (.arg 1633) (.add (.arg 7073) (.add (.arg 3008) (.add (.arg 2018) (.add (.arg 1954) (.arg 1986))))))))))) = astatb (ρ.1 2816).toInt (ρ.1 2784).toInt (ρ.2.1 7073).toInt (decide (1 ≤ (ρ.1 3008).toInt) && decide ((ρ.2.2.2.1 1761 129).toInt ≤ (ρ.1 3008).toInt)) (decide ((ρ.2.1 1665).toInt = awant (ρ.2.2.2.1 1761))) (!(decide (awant (ρ.2.2.2.1 1761) = 0)) && (decide ((ρ.2.1 1665).toInt = 0) && decide ((ρ.2.1 1633).toInt = 1000000 * aedge (ρ.2.2.2.1 1761) (decide (0 < awant (ρ.2.2.2.1 1761)))))) (decide ((ρ.2.1 1665).toInt = 0)) (decide ((ρ.2.1 1665).toInt = 0) && decide ((ρ.2.1 1633).toInt = 1000000 * acut (ρ.2.2.2.1 1761) (ρ.2.2.2.1 1761 132).toInt)) (!(decide ((ρ.1 2018).toInt = 0))) (!(decide ((ρ.1 1954).toInt = 0))) (!(decide ((ρ.1 1986).toInt = 0))) := rfl
  have e2 : ∀ (nt : Int) (a b c d f g i j : Bool), astatb pw nt md a b c d f g i j = astatb pw (cond (decide (nt = 5)) 5 0) md a b c d f g i j := by
    intro nt a b c d f g i j
    by_cases q : nt = 5
    · rw [q]; rfl
    · unfold astatb
      rw [if_neg q, decide_eq_false q]
      rfl
  show decide ((c : Int32).toInt = astat (aits X ρ (.add (.elem (.arg 1761) (.int 0)) (.add (.arg 2816) (.add (.arg 2784) (.add (.arg 1665) (.add (.arg 1633) (.add (.arg 7073) (.add (.arg 3008) (.add (.arg 2018) (.add (.arg 1954) (.arg 1986)))))))))))) = true
  rw [e, h1, h3, h4, h5, h6, h8, h7, h9, h10, h11, e2, h2]
  exact decide_eq_true h
theorem tb_t {a b : Bool} (h1 : a = true) (h2 : b = true) : (a && b) = true := by rw [h1, h2]; rfl
theorem tb_1 {a b : Bool} (h1 : a = false) : (a && b) = false := by rw [h1]; rfl
theorem tb_2 {a b : Bool} (h2 : b = false) : (a && b) = false := by rw [h2]; exact Bool.and_false a
theorem tn_t {a : Bool} (h : a = false) : (!a) = true := by rw [h]; rfl
theorem tn_f {a : Bool} (h : a = true) : (!a) = false := by rw [h]; rfl

/-! ===== every method, held against the tables ===== -/
noncomputable def ckMeth (M : pM) : Bool := (List.range 17).any (fun on => decide (M.1.cls = onm on) && (plainFor M.1 && M.2.2.2.2.all (fun o => ckD M.2.1 o && (ckI on (decide (M.1.name = "<init>")) o && ckT M.1.cls M.2.1 o))))
theorem ckMeth_ok {M : pM} (h : ckMeth M = true) : plainFor M.1 = true ∧ ∀ o ∈ M.2.2.2.2, pm_opok pTs pNw mt_all pcl pstat M.1.cls M.1.name M.2.1 o ∧ pm_thok pTs strs M.1.cls M.2.1 o := by
  obtain ⟨on, hon, h1⟩ := an h
  simp only [Bool.and_eq_true, decide_eq_true_eq] at h1
  obtain ⟨h2, h3, h4⟩ := h1
  refine ⟨h3, fun o ho => ?_⟩
  have h5 := List.all_eq_true.mp h4 o ho
  simp only [Bool.and_eq_true] at h5
  refine ⟨?_, ckT_ok h5.2.2⟩
  have h6 := ck_ok (List.mem_range.mp hon) (mname := M.1.name) (fun q => of_decide_eq_true q) h5.1 h5.2.1
  rw [← h2] at h6
  exact h6
theorem okq_at {ops : List pOp} {f : pOp → Bool} {k w j : Nat} {o : pOp} (h : ((ops.drop k).take w).all f = true) (h1 : k ≤ j) (h2 : j < k + w) (ho : ops[j]? = some o) : f o = true := by
  refine List.all_eq_true.mp h o (List.mem_of_getElem? (i := j - k) ?_)
  rw [List.getElem?_take_of_lt (by omega), List.getElem?_drop, show k + (j - k) = j by omega]; exact ho
theorem okq_up {y on : Nat} {ops : List pOp} {M M' : pM} {ini : Bool} (hM : mt_all[y]? = some M) (hM' : mt_all[y]? = some M') (h : ∀ o ∈ ops, (ckD M'.2.1 o && (ckI on ini o && ckT (onm on) M'.2.1 o)) = true) (e : M'.2.2.2.2 = ops := by rfl) (e1 : M'.1.cls = onm on := by rfl) (e2 : decide (M'.1.name = "<init>") = ini := by decide) (e3 : plainFor M'.1 = true := by decide) (e4 : on < 17 := by decide) : ckMeth M = true := by
  cases Option.some.inj (hM.symm.trans hM')
  subst e e2
  refine List.any_eq_true.mpr ⟨on, List.mem_range.mpr e4, ?_⟩
  simp only [Bool.and_eq_true, decide_eq_true_eq]
  refine ⟨e1, e3, List.all_eq_true.mpr (fun o ho => ?_)⟩
  have := h o ho
  rw [← e1] at this
  exact this
theorem okm_at {k w y : Nat} {M : pM} (h : ((mt_all.drop k).take w).all ckMeth = true) (h1 : k ≤ y) (h2 : y < k + w) (hM : mt_all[y]? = some M) : ckMeth M = true := by
  refine List.all_eq_true.mp h M (List.mem_of_getElem? (i := y - k) ?_)
  rw [List.getElem?_take_of_lt (by omega), List.getElem?_drop, show k + (y - k) = y by omega]; exact hM
theorem okm_0 : ((mt_all.drop 0).take 6).all ckMeth = true := by decide +kernel
theorem okm_1 : ((mt_all.drop 6).take 4).all ckMeth = true := by decide +kernel
theorem okm_2 : ((mt_all.drop 10).take 5).all ckMeth = true := by decide +kernel
theorem okm_3 : ((mt_all.drop 15).take 6).all ckMeth = true := by decide +kernel
theorem okm_4 : ((mt_all.drop 21).take 6).all ckMeth = true := by decide +kernel
theorem okm_5 : ((mt_all.drop 27).take 5).all ckMeth = true := by decide +kernel
theorem okm_6 : ((mt_all.drop 32).take 3).all ckMeth = true := by decide +kernel
theorem okm_7 : ((mt_all.drop 35).take 5).all ckMeth = true := by decide +kernel
theorem okm_8 : ((mt_all.drop 40).take 5).all ckMeth = true := by decide +kernel
theorem okm_9 : ((mt_all.drop 45).take 3).all ckMeth = true := by decide +kernel
theorem okm_10 : ((mt_all.drop 48).take 7).all ckMeth = true := by decide +kernel
theorem okm_11 : ((mt_all.drop 55).take 6).all ckMeth = true := by decide +kernel
theorem okm_12 : ((mt_all.drop 61).take 3).all ckMeth = true := by decide +kernel
theorem okm_13 : ((mt_all.drop 64).take 6).all ckMeth = true := by decide +kernel
theorem okm_14 : ((mt_all.drop 70).take 6).all ckMeth = true := by decide +kernel
theorem okm_15 : ((mt_all.drop 76).take 4).all ckMeth = true := by decide +kernel
theorem okm_16 : ((mt_all.drop 80).take 4).all ckMeth = true := by decide +kernel
theorem okm_17 : ((mt_all.drop 84).take 6).all ckMeth = true := by decide +kernel
theorem okm_18 : ((mt_all.drop 90).take 4).all ckMeth = true := by decide +kernel
theorem okm_19 : ((mt_all.drop 94).take 4).all ckMeth = true := by decide +kernel
theorem okm_20 : ((mt_all.drop 98).take 7).all ckMeth = true := by decide +kernel
theorem okm_21 : ((mt_all.drop 105).take 5).all ckMeth = true := by decide +kernel
theorem okm_22 : ((mt_all.drop 110).take 5).all ckMeth = true := by decide +kernel
theorem okm_23 : ((mt_all.drop 115).take 4).all ckMeth = true := by decide +kernel
theorem okm_24 : ((mt_all.drop 119).take 4).all ckMeth = true := by decide +kernel
theorem okm_25 : ((mt_all.drop 123).take 4).all ckMeth = true := by decide +kernel
theorem okm_26 : ((mt_all.drop 127).take 2).all ckMeth = true := by decide +kernel

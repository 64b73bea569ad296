theorem okm_27 : ((mt_all.drop 129).take 5).all ckMeth = true := by decide +kernel
theorem okm_28 : ((mt_all.drop 134).take 5).all ckMeth = true := by decide +kernel
theorem okm_29 : ((mt_all.drop 139).take 3).all ckMeth = true := by decide +kernel
theorem okm_30 : ((mt_all.drop 142).take 3).all ckMeth = true := by decide +kernel
theorem okm_31 : ((mt_all.drop 145).take 2).all ckMeth = true := by decide +kernel
theorem okm_32 : ((mt_all.drop 147).take 4).all ckMeth = true := by decide +kernel
theorem okm_33 : ((mt_all.drop 151).take 6).all ckMeth = true := by decide +kernel
theorem okm_34 : ((mt_all.drop 157).take 4).all ckMeth = true := by decide +kernel
theorem okm_35 : ((mt_all.drop 161).take 3).all ckMeth = true := by decide +kernel
theorem okm_36 : ((mt_all.drop 164).take 4).all ckMeth = true := by decide +kernel
theorem okm_37 : ((mt_all.drop 168).take 4).all ckMeth = true := by decide +kernel
theorem okm_38 : ((mt_all.drop 172).take 4).all ckMeth = true := by decide +kernel
theorem okm_39 : ((mt_all.drop 176).take 8).all ckMeth = true := by decide +kernel
theorem okm_40 : ((mt_all.drop 184).take 7).all ckMeth = true := by decide +kernel
theorem okm_41 : ((mt_all.drop 191).take 8).all ckMeth = true := by decide +kernel
theorem okm_42 : ((mt_all.drop 199).take 15).all ckMeth = true := by decide +kernel
theorem okm_43 : ((mt_all.drop 214).take 6).all ckMeth = true := by decide +kernel
theorem okm_44 : ((mt_all.drop 220).take 2).all ckMeth = true := by decide +kernel
noncomputable def okf_222 (o : pOp) : Bool := ckD (prog_15_method_1_code) o && (ckI 13 true o && ckT (onm 13) (prog_15_method_1_code) o)
theorem okq_222_0 : ((mo_222.drop 0).take 60).all okf_222 = true := by decide +kernel
theorem okq_222_1 : ((mo_222.drop 60).take 60).all okf_222 = true := by decide +kernel
theorem okq_222_2 : ((mo_222.drop 120).take 60).all okf_222 = true := by decide +kernel
theorem okq_222_3 : ((mo_222.drop 180).take 60).all okf_222 = true := by decide +kernel
theorem okq_222_4 : ((mo_222.drop 240).take 60).all okf_222 = true := by decide +kernel
theorem okq_222_5 : ((mo_222.drop 300).take 60).all okf_222 = true := by decide +kernel
theorem okq_222_6 : ((mo_222.drop 360).take 60).all okf_222 = true := by decide +kernel
theorem okq_222_7 : ((mo_222.drop 420).take 60).all okf_222 = true := by decide +kernel
theorem okq_222_8 : ((mo_222.drop 480).take 60).all okf_222 = true := by decide +kernel
theorem okq_222_9 : ((mo_222.drop 540).take 60).all okf_222 = true := by decide +kernel
theorem okq_222_10 : ((mo_222.drop 600).take 60).all okf_222 = true := by decide +kernel
theorem okq_222 : ∀ o ∈ mo_222, okf_222 o = true := by
  intro o ho
  obtain ⟨j, hj⟩ := List.getElem?_of_mem ho
  have h8 : mo_222.length = 607 := by decide +kernel
  have h9 := (List.getElem?_eq_some_iff.mp hj).1
  rw [h8] at h9
  clear h8 ho
  by_cases h0 : j < 60
  · exact okq_at (ops := mo_222) (f := okf_222) (k := 0) (w := 60) okq_222_0 (by omega) (by omega) hj
  by_cases h60 : j < 120
  · exact okq_at (ops := mo_222) (f := okf_222) (k := 60) (w := 60) okq_222_1 (by omega) (by omega) hj
  by_cases h120 : j < 180
  · exact okq_at (ops := mo_222) (f := okf_222) (k := 120) (w := 60) okq_222_2 (by omega) (by omega) hj
  by_cases h180 : j < 240
  · exact okq_at (ops := mo_222) (f := okf_222) (k := 180) (w := 60) okq_222_3 (by omega) (by omega) hj
  by_cases h240 : j < 300
  · exact okq_at (ops := mo_222) (f := okf_222) (k := 240) (w := 60) okq_222_4 (by omega) (by omega) hj
  by_cases h300 : j < 360
  · exact okq_at (ops := mo_222) (f := okf_222) (k := 300) (w := 60) okq_222_5 (by omega) (by omega) hj
  by_cases h360 : j < 420
  · exact okq_at (ops := mo_222) (f := okf_222) (k := 360) (w := 60) okq_222_6 (by omega) (by omega) hj
  by_cases h420 : j < 480
  · exact okq_at (ops := mo_222) (f := okf_222) (k := 420) (w := 60) okq_222_7 (by omega) (by omega) hj
  by_cases h480 : j < 540
  · exact okq_at (ops := mo_222) (f := okf_222) (k := 480) (w := 60) okq_222_8 (by omega) (by omega) hj
  by_cases h540 : j < 600
  · exact okq_at (ops := mo_222) (f := okf_222) (k := 540) (w := 60) okq_222_9 (by omega) (by omega) hj
  by_cases h600 : j < 660
  · exact okq_at (ops := mo_222) (f := okf_222) (k := 600) (w := 60) okq_222_10 (by omega) (by omega) hj
  omega
theorem okm_45 {M : pM} (hM : mt_all[222]? = some M) : ckMeth M = true := okq_up (on := 13) (ops := mo_222) (M' := (⟨"ServoNetModel", "<init>", "(I)V"⟩, prog_15_method_1_code, 3, none, mo_222)) hM rfl okq_222
theorem okm_46 : ((mt_all.drop 223).take 11).all ckMeth = true := by decide +kernel
theorem okm_47 : ((mt_all.drop 234).take 1).all ckMeth = true := by decide +kernel
theorem okm_48 : ((mt_all.drop 235).take 1).all ckMeth = true := by decide +kernel
theorem okm_49 : ((mt_all.drop 236).take 2).all ckMeth = true := by decide +kernel
theorem okm_50 : ((mt_all.drop 238).take 3).all ckMeth = true := by decide +kernel
theorem okm_51 : ((mt_all.drop 241).take 7).all ckMeth = true := by decide +kernel
theorem okm_52 : ((mt_all.drop 248).take 3).all ckMeth = true := by decide +kernel
theorem okm_53 : ((mt_all.drop 251).take 2).all ckMeth = true := by decide +kernel

theorem okm_all {y : Nat} {M : pM} (hM : mt_all[y]? = some M) : ckMeth M = true := by
  have hy : y < 455 := by
    have h9 := (List.getElem?_eq_some_iff.mp hM).1
    have h8 : mt_all.length = 455 := by decide +kernel
    omega
  by_cases h0 : y < 6
  · exact okm_at okm_0 (by omega) (by omega) hM
  by_cases h1 : y < 10
  · exact okm_at okm_1 (by omega) (by omega) hM
  by_cases h2 : y < 15
  · exact okm_at okm_2 (by omega) (by omega) hM
  by_cases h3 : y < 21
  · exact okm_at okm_3 (by omega) (by omega) hM
  by_cases h4 : y < 27
  · exact okm_at okm_4 (by omega) (by omega) hM
  by_cases h5 : y < 32
  · exact okm_at okm_5 (by omega) (by omega) hM
  by_cases h6 : y < 35
  · exact okm_at okm_6 (by omega) (by omega) hM
  by_cases h7 : y < 40
  · exact okm_at okm_7 (by omega) (by omega) hM
  by_cases h8 : y < 45
  · exact okm_at okm_8 (by omega) (by omega) hM
  by_cases h9 : y < 48
  · exact okm_at okm_9 (by omega) (by omega) hM
  by_cases h10 : y < 55
  · exact okm_at okm_10 (by omega) (by omega) hM
  by_cases h11 : y < 61
  · exact okm_at okm_11 (by omega) (by omega) hM
  by_cases h12 : y < 64
  · exact okm_at okm_12 (by omega) (by omega) hM
  by_cases h13 : y < 70
  · exact okm_at okm_13 (by omega) (by omega) hM
  by_cases h14 : y < 76
  · exact okm_at okm_14 (by omega) (by omega) hM
  by_cases h15 : y < 80
  · exact okm_at okm_15 (by omega) (by omega) hM
  by_cases h16 : y < 84
  · exact okm_at okm_16 (by omega) (by omega) hM
  by_cases h17 : y < 90
  · exact okm_at okm_17 (by omega) (by omega) hM
  by_cases h18 : y < 94
  · exact okm_at okm_18 (by omega) (by omega) hM
  by_cases h19 : y < 98
  · exact okm_at okm_19 (by omega) (by omega) hM
  by_cases h20 : y < 105
  · exact okm_at okm_20 (by omega) (by omega) hM
  by_cases h21 : y < 110
  · exact okm_at okm_21 (by omega) (by omega) hM
  by_cases h22 : y < 115
  · exact okm_at okm_22 (by omega) (by omega) hM
  by_cases h23 : y < 119
  · exact okm_at okm_23 (by omega) (by omega) hM
  by_cases h24 : y < 123
  · exact okm_at okm_24 (by omega) (by omega) hM
  by_cases h25 : y < 127
  · exact okm_at okm_25 (by omega) (by omega) hM
  by_cases h26 : y < 129
  · exact okm_at okm_26 (by omega) (by omega) hM
  by_cases h27 : y < 134
  · exact okm_at okm_27 (by omega) (by omega) hM
  by_cases h28 : y < 139
  · exact okm_at okm_28 (by omega) (by omega) hM
  by_cases h29 : y < 142
  · exact okm_at okm_29 (by omega) (by omega) hM
  by_cases h30 : y < 145
  · exact okm_at okm_30 (by omega) (by omega) hM
  by_cases h31 : y < 147
  · exact okm_at okm_31 (by omega) (by omega) hM
  by_cases h32 : y < 151
  · exact okm_at okm_32 (by omega) (by omega) hM
  by_cases h33 : y < 157
  · exact okm_at okm_33 (by omega) (by omega) hM
  by_cases h34 : y < 161
  · exact okm_at okm_34 (by omega) (by omega) hM
  by_cases h35 : y < 164
  · exact okm_at okm_35 (by omega) (by omega) hM
  by_cases h36 : y < 168
  · exact okm_at okm_36 (by omega) (by omega) hM
  by_cases h37 : y < 172
  · exact okm_at okm_37 (by omega) (by omega) hM
  by_cases h38 : y < 176
  · exact okm_at okm_38 (by omega) (by omega) hM
  by_cases h39 : y < 184
  · exact okm_at okm_39 (by omega) (by omega) hM
  by_cases h40 : y < 191
  · exact okm_at okm_40 (by omega) (by omega) hM
  by_cases h41 : y < 199
  · exact okm_at okm_41 (by omega) (by omega) hM
  by_cases h42 : y < 214
  · exact okm_at okm_42 (by omega) (by omega) hM
  by_cases h43 : y < 220
  · exact okm_at okm_43 (by omega) (by omega) hM
  by_cases h44 : y < 222
  · exact okm_at okm_44 (by omega) (by omega) hM
  by_cases h45 : y < 223
  · have e9 : y = 222 := by omega
    rw [e9] at hM
    exact okm_45 hM
  by_cases h46 : y < 234
  · exact okm_at okm_46 (by omega) (by omega) hM
  by_cases h47 : y < 235
  · exact okm_at okm_47 (by omega) (by omega) hM
  by_cases h48 : y < 236
  · exact okm_at okm_48 (by omega) (by omega) hM
  by_cases h49 : y < 238
  · exact okm_at okm_49 (by omega) (by omega) hM
  by_cases h50 : y < 241
  · exact okm_at okm_50 (by omega) (by omega) hM
  by_cases h51 : y < 248
  · exact okm_at okm_51 (by omega) (by omega) hM
  by_cases h52 : y < 251
  · exact okm_at okm_52 (by omega) (by omega) hM
  by_cases h53 : y < 253
  · exact okm_at okm_53 (by omega) (by omega) hM
  by_cases h54 : y < 261
  · exact okm_at okm_54 (by omega) (by omega) hM
  by_cases h55 : y < 263
  · exact okm_at okm_55 (by omega) (by omega) hM
  by_cases h56 : y < 267
  · exact okm_at okm_56 (by omega) (by omega) hM
  by_cases h57 : y < 270
  · exact okm_at okm_57 (by omega) (by omega) hM
  by_cases h58 : y < 273
  · exact okm_at okm_58 (by omega) (by omega) hM
  by_cases h59 : y < 277
  · exact okm_at okm_59 (by omega) (by omega) hM
  by_cases h60 : y < 281
  · exact okm_at okm_60 (by omega) (by omega) hM
  by_cases h61 : y < 285
  · exact okm_at okm_61 (by omega) (by omega) hM
  by_cases h62 : y < 287
  · exact okm_at okm_62 (by omega) (by omega) hM
  by_cases h63 : y < 290
  · exact okm_at okm_63 (by omega) (by omega) hM
  by_cases h64 : y < 293
  · exact okm_at okm_64 (by omega) (by omega) hM
  by_cases h65 : y < 294
  · exact okm_at okm_65 (by omega) (by omega) hM
  by_cases h66 : y < 297
  · exact okm_at okm_66 (by omega) (by omega) hM
  by_cases h67 : y < 300
  · exact okm_at okm_67 (by omega) (by omega) hM
  by_cases h68 : y < 304
  · exact okm_at okm_68 (by omega) (by omega) hM
  by_cases h69 : y < 308
  · exact okm_at okm_69 (by omega) (by omega) hM
  by_cases h70 : y < 312
  · exact okm_at okm_70 (by omega) (by omega) hM
  by_cases h71 : y < 316
  · exact okm_at okm_71 (by omega) (by omega) hM
  by_cases h72 : y < 318
  · exact okm_at okm_72 (by omega) (by omega) hM
  by_cases h73 : y < 321
  · exact okm_at okm_73 (by omega) (by omega) hM
  by_cases h74 : y < 324
  · exact okm_at okm_74 (by omega) (by omega) hM
  by_cases h75 : y < 327
  · exact okm_at okm_75 (by omega) (by omega) hM
  by_cases h76 : y < 330
  · exact okm_at okm_76 (by omega) (by omega) hM
  by_cases h77 : y < 333
  · exact okm_at okm_77 (by omega) (by omega) hM
  by_cases h78 : y < 337
  · exact okm_at okm_78 (by omega) (by omega) hM
  by_cases h79 : y < 340
  · exact okm_at okm_79 (by omega) (by omega) hM
  by_cases h80 : y < 341
  · exact okm_at okm_80 (by omega) (by omega) hM
  by_cases h81 : y < 345
  · exact okm_at okm_81 (by omega) (by omega) hM
  by_cases h82 : y < 349
  · exact okm_at okm_82 (by omega) (by omega) hM
  by_cases h83 : y < 351
  · exact okm_at okm_83 (by omega) (by omega) hM
  by_cases h84 : y < 353
  · exact okm_at okm_84 (by omega) (by omega) hM
  by_cases h85 : y < 354
  · exact okm_at okm_85 (by omega) (by omega) hM
  by_cases h86 : y < 357
  · exact okm_at okm_86 (by omega) (by omega) hM
  by_cases h87 : y < 361
  · exact okm_at okm_87 (by omega) (by omega) hM
  by_cases h88 : y < 363
  · exact okm_at okm_88 (by omega) (by omega) hM
  by_cases h89 : y < 364
  · exact okm_at okm_89 (by omega) (by omega) hM
  by_cases h90 : y < 365
  · exact okm_at okm_90 (by omega) (by omega) hM
  by_cases h91 : y < 370
  · exact okm_at okm_91 (by omega) (by omega) hM
  by_cases h92 : y < 376
  · exact okm_at okm_92 (by omega) (by omega) hM
  by_cases h93 : y < 382
  · exact okm_at okm_93 (by omega) (by omega) hM
  by_cases h94 : y < 387
  · exact okm_at okm_94 (by omega) (by omega) hM
  by_cases h95 : y < 390
  · exact okm_at okm_95 (by omega) (by omega) hM
  by_cases h96 : y < 394
  · exact okm_at okm_96 (by omega) (by omega) hM
  by_cases h97 : y < 397
  · exact okm_at okm_97 (by omega) (by omega) hM
  by_cases h98 : y < 401
  · exact okm_at okm_98 (by omega) (by omega) hM
  by_cases h99 : y < 406
  · exact okm_at okm_99 (by omega) (by omega) hM
  by_cases h100 : y < 411
  · exact okm_at okm_100 (by omega) (by omega) hM
  by_cases h101 : y < 418
  · exact okm_at okm_101 (by omega) (by omega) hM
  by_cases h102 : y < 424
  · exact okm_at okm_102 (by omega) (by omega) hM
  by_cases h103 : y < 442
  · exact okm_at okm_103 (by omega) (by omega) hM
  by_cases h104 : y < 455
  · exact okm_at okm_104 (by omega) (by omega) hM
  omega
theorem hMt_ok (y : Nat) (M : pM) (hM : mt_all[y]? = some M) : plainFor M.1 = true ∧ ∀ o ∈ M.2.2.2.2, pm_opok pTs pNw mt_all pcl pstat M.1.cls M.1.name M.2.1 o := ⟨(ckMeth_ok (okm_all hM)).1, fun o ho => ((ckMeth_ok (okm_all hM)).2 o ho).1⟩
theorem hMx_ok (y : Nat) (M : pM) (hM : mt_all[y]? = some M) : ∀ o ∈ M.2.2.2.2, pm_thok pTs strs M.1.cls M.2.1 o := fun o ho => ((ckMeth_ok (okm_all hM)).2 o ho).2
noncomputable def ckLaw (cc : ByteArray) (o : pOp) : Bool := ckD cc o && (if pm_isHelp o.2.1 o.2.2.2.2.2 = true then ckP o else ckI 14 false o)
theorem okl_0 : ((mo_455.drop 0).take 60).all (ckLaw code) = true := by decide +kernel
theorem okl_1 : ((mo_455.drop 60).take 60).all (ckLaw code) = true := by decide +kernel
theorem okl_2 : ((mo_455.drop 120).take 60).all (ckLaw code) = true := by decide +kernel
theorem okl_3 : ((mo_455.drop 180).take 60).all (ckLaw code) = true := by decide +kernel
theorem okl_4 : ((mo_455.drop 240).take 60).all (ckLaw code) = true := by decide +kernel
theorem okl_5 : ((mo_455.drop 300).take 60).all (ckLaw code) = true := by decide +kernel
theorem okl_6 : ((mo_455.drop 360).take 60).all (ckLaw code) = true := by decide +kernel
theorem okl_7 : ((mo_455.drop 420).take 60).all (ckLaw code) = true := by decide +kernel
theorem okl_8 : ((mo_455.drop 480).take 60).all (ckLaw code) = true := by decide +kernel
theorem okl_9 : ((mo_455.drop 540).take 60).all (ckLaw code) = true := by decide +kernel
theorem okl_10 : ((mo_455.drop 600).take 60).all (ckLaw code) = true := by decide +kernel
theorem okl_11 : ((mo_455.drop 660).take 60).all (ckLaw code) = true := by decide +kernel
theorem okl_12 : ((mo_455.drop 720).take 60).all (ckLaw code) = true := by decide +kernel
theorem okl_13 : ((mo_455.drop 780).take 60).all (ckLaw code) = true := by decide +kernel
theorem okl_14 : ((mo_455.drop 840).take 60).all (ckLaw code) = true := by decide +kernel
theorem okl_15 : ((mo_455.drop 900).take 60).all (ckLaw code) = true := by decide +kernel
theorem okl_16 : ((mo_455.drop 960).take 60).all (ckLaw code) = true := by decide +kernel
theorem okl_17 : ((mo_455.drop 1020).take 60).all (ckLaw code) = true := by decide +kernel
theorem okl_18 : ((mo_455.drop 1080).take 60).all (ckLaw code) = true := by decide +kernel
theorem okl_19 : ((mo_455.drop 1140).take 60).all (ckLaw code) = true := by decide +kernel
theorem okl_20 : ((mo_455.drop 1200).take 60).all (ckLaw code) = true := by decide +kernel
theorem okl : ∀ o ∈ mo_455, ckLaw code o = true := by
  intro o ho
  obtain ⟨j, hj⟩ := List.getElem?_of_mem ho
  have h8 : mo_455.length = 1225 := by decide +kernel
  have h9 := (List.getElem?_eq_some_iff.mp hj).1
  rw [h8] at h9
  clear h8 ho
  by_cases h0 : j < 60
  · exact okq_at (ops := mo_455) (f := ckLaw code) (k := 0) (w := 60) okl_0 (by omega) (by omega) hj
  by_cases h60 : j < 120
  · exact okq_at (ops := mo_455) (f := ckLaw code) (k := 60) (w := 60) okl_1 (by omega) (by omega) hj
  by_cases h120 : j < 180
  · exact okq_at (ops := mo_455) (f := ckLaw code) (k := 120) (w := 60) okl_2 (by omega) (by omega) hj
  by_cases h180 : j < 240
  · exact okq_at (ops := mo_455) (f := ckLaw code) (k := 180) (w := 60) okl_3 (by omega) (by omega) hj
  by_cases h240 : j < 300
  · exact okq_at (ops := mo_455) (f := ckLaw code) (k := 240) (w := 60) okl_4 (by omega) (by omega) hj
  by_cases h300 : j < 360
  · exact okq_at (ops := mo_455) (f := ckLaw code) (k := 300) (w := 60) okl_5 (by omega) (by omega) hj
  by_cases h360 : j < 420
  · exact okq_at (ops := mo_455) (f := ckLaw code) (k := 360) (w := 60) okl_6 (by omega) (by omega) hj
  by_cases h420 : j < 480
  · exact okq_at (ops := mo_455) (f := ckLaw code) (k := 420) (w := 60) okl_7 (by omega) (by omega) hj
  by_cases h480 : j < 540
  · exact okq_at (ops := mo_455) (f := ckLaw code) (k := 480) (w := 60) okl_8 (by omega) (by omega) hj
  by_cases h540 : j < 600
  · exact okq_at (ops := mo_455) (f := ckLaw code) (k := 540) (w := 60) okl_9 (by omega) (by omega) hj
  by_cases h600 : j < 660
  · exact okq_at (ops := mo_455) (f := ckLaw code) (k := 600) (w := 60) okl_10 (by omega) (by omega) hj
  by_cases h660 : j < 720
  · exact okq_at (ops := mo_455) (f := ckLaw code) (k := 660) (w := 60) okl_11 (by omega) (by omega) hj
  by_cases h720 : j < 780
  · exact okq_at (ops := mo_455) (f := ckLaw code) (k := 720) (w := 60) okl_12 (by omega) (by omega) hj
  by_cases h780 : j < 840
  · exact okq_at (ops := mo_455) (f := ckLaw code) (k := 780) (w := 60) okl_13 (by omega) (by omega) hj
  by_cases h840 : j < 900
  · exact okq_at (ops := mo_455) (f := ckLaw code) (k := 840) (w := 60) okl_14 (by omega) (by omega) hj
  by_cases h900 : j < 960
  · exact okq_at (ops := mo_455) (f := ckLaw code) (k := 900) (w := 60) okl_15 (by omega) (by omega) hj
  by_cases h960 : j < 1020
  · exact okq_at (ops := mo_455) (f := ckLaw code) (k := 960) (w := 60) okl_16 (by omega) (by omega) hj
  by_cases h1020 : j < 1080
  · exact okq_at (ops := mo_455) (f := ckLaw code) (k := 1020) (w := 60) okl_17 (by omega) (by omega) hj
  by_cases h1080 : j < 1140
  · exact okq_at (ops := mo_455) (f := ckLaw code) (k := 1080) (w := 60) okl_18 (by omega) (by omega) hj
  by_cases h1140 : j < 1200
  · exact okq_at (ops := mo_455) (f := ckLaw code) (k := 1140) (w := 60) okl_19 (by omega) (by omega) hj
  by_cases h1200 : j < 1260
  · exact okq_at (ops := mo_455) (f := ckLaw code) (k := 1200) (w := 60) okl_20 (by omega) (by omega) hj
  omega
theorem hlaw_ok {mname : String} : ∀ o ∈ mo_455, if pm_isHelp o.2.1 o.2.2.2.2.2 = true then pm_hpok pTs Hm "ServoNetLaw" code o else pm_opok pTs pNw mt_all pcl pstat "ServoNetLaw" mname code o := by
  intro o ho
  have h := okl o ho
  simp only [ckLaw, Bool.and_eq_true] at h
  by_cases hh : pm_isHelp o.2.1 o.2.2.2.2.2 = true
  · rw [if_pos hh] at h ⊢
    exact ckP_ok h.1 h.2
  · rw [if_neg hh] at h ⊢
    exact ck_ok (on := 14) (by decide) (fun q => by cases q) h.1 h.2

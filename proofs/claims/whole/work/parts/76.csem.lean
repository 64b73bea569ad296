/-! ===== ... what the two searches find is the same ===== -/
noncomputable def vnl (ρ : sR) (k : Nat) : Int := (ρ.2.1 k).toInt
theorem tie2 {X : pX} {ρ3 ρ1 : sR} {k : Nat} {t : sT} (h : sd X ρ3 (.arg k) = sd X ρ1 t) : ρ3.2.1 k = (sd X ρ1 t).2 := congrArg Prod.snd h
theorem tie1 {X : pX} {ρ3 ρ1 : sR} {k : Nat} {t : sT} (h : sd X ρ3 (.arg k) = sd X ρ1 t) : ρ3.1 k = (sd X ρ1 t).1 := congrArg Prod.fst h
theorem fok_cons {X : pX} {ρ : sR} {c : sQ} {v : Bool} {F : sFs} (h : sc X ρ c = v) (hF : fok X ρ F) : fok X ρ ((c, v) :: F) := ⟨hF.1, fun f hf => by
  rcases List.mem_cons.mp hf with e | hf
  · rw [e]; exact h
  · exact hF.2 f hf⟩
theorem lt_l {x y : Int64} (h : x.toInt < y.toInt) : x < y := Int64.lt_iff_toInt_lt.mpr h
theorem nlt_l {x y : Int64} (h : y.toInt ≤ x.toInt) : ¬ x < y := fun q => by have := Int64.lt_iff_toInt_lt.mp q; omega
theorem l_nlt {x y : Int64} (h : ¬ x < y) : y.toInt ≤ x.toInt := Int64.le_iff_toInt_le.mp (Int64.not_lt.mp h)
theorem l_lt {x y : Int64} (h : x < y) : x.toInt < y.toInt := Int64.lt_iff_toInt_lt.mp h
theorem gb_dn {X : pX} {ρ : sR} (h : fok X ρ f_gb) : 1 ≤ vnl ρ 60097 := by
  have h1 : ¬ ρ.2.1 60097 < 1 := of_decide_eq_false (h.2 ((8, .arg 60097, .long 1), false) (List.mem_cons_of_mem _ (List.mem_cons_of_mem _ List.mem_cons_self)))
  exact l_nlt h1
theorem iok_nil {X : pX} {ρ : sR} : iok X ρ [] := fun c hc => by cases hc
theorem AT_M0 {X : pX} {ρ0 : sR} (hv : vok X ρ0) : ∀ (ρ : sR), kok X ρ kR → fok X ρ f_gb → agrM 65536 c_goto0.2.2.2.2.1.1 c_goto0.2.2.2.2.1.2 ρ ρ0 → 0 ≤ vnl ρ 60193 → vnl ρ 60225 ≤ 2000000000 → vnl ρ 60193 ≤ vnl ρ 60321 → vnl ρ 60321 ≤ vnl ρ 60225 → (vnl ρ 60321 = vnl ρ 60193 ∨ gF (vnl ρ 60097) (vnl ρ 60321) ≤ vnl ρ 60161) → (vnl ρ 60321 = vnl ρ 60225 ∨ vnl ρ 60161 < gF (vnl ρ 60097) (vnl ρ 60321 + 1)) → vnl ρ 60193 ≤ vnl ρ 60353 → vnl ρ 60353 ≤ vnl ρ 60385 → vnl ρ 60385 ≤ vnl ρ 60225 → (vnl ρ 60353 = vnl ρ 60193 ∨ gF (vnl ρ 60097) (vnl ρ 60353) ≤ vnl ρ 60161) → (vnl ρ 60385 = vnl ρ 60225 ∨ vnl ρ 60161 < gF (vnl ρ 60097) (vnl ρ 60385 + 1)) → vnl ρ 60385 - vnl ρ 60353 ≤ 0 → AT X zVD c_goto0 5 ρ0 ρ q_gM := by
  intro ρ k1 k2 k4 a1 a2 r1 r2 r3 r4 l1 l2 l3 l4 l5 hn
  have hd := gb_dn k2
  have hR : vnl ρ 60321 = vnl ρ 60353 := g_uniq hd a1 r1 r2 r3 r4 l1 (by omega) l4 (by rcases l5 with e | e; (· left; omega); right; rw [show vnl ρ 60353 = vnl ρ 60385 by omega]; exact e)
  refine AT_of (q := q_gM0) rfl rfl (SEM_run kR_x kR_0 (Cs := []) (fun C hC => by cases hC) c_goto0_f (Q := w_gM0) hv 1500 (b1 := true) (b2 := true) k_gM0 k1 (fok_cons ?_ (fok_cons ?_ (fok_cons ?_ (fok_cons ?_ k2)))) iok_nil k4 (fun p hp => by cases hp))
  · exact decide_eq_false (nlt_l (show vnl ρ 60385 ≤ vnl ρ 60353 by omega))
  · exact decide_eq_true (Int64.toInt_inj.mp hR)
  · exact decide_eq_false (nlt_l (show (0 : Int) ≤ vnl ρ 60321 by omega))
  · exact decide_eq_false (nlt_l (show vnl ρ 60321 ≤ 2000000000 by omega))
theorem gM_at {X : pX} {ρ0 : sR} (hv : vok X ρ0) : ∀ (n : Nat) (ρ : sR), kok X ρ kR → fok X ρ f_gb → agrM 65536 c_goto0.2.2.2.2.1.1 c_goto0.2.2.2.2.1.2 ρ ρ0 → 0 ≤ vnl ρ 60193 → vnl ρ 60225 ≤ 2000000000 → vnl ρ 60193 ≤ vnl ρ 60321 → vnl ρ 60321 ≤ vnl ρ 60225 → (vnl ρ 60321 = vnl ρ 60193 ∨ gF (vnl ρ 60097) (vnl ρ 60321) ≤ vnl ρ 60161) → (vnl ρ 60321 = vnl ρ 60225 ∨ vnl ρ 60161 < gF (vnl ρ 60097) (vnl ρ 60321 + 1)) → vnl ρ 60193 ≤ vnl ρ 60353 → vnl ρ 60353 ≤ vnl ρ 60385 → vnl ρ 60385 ≤ vnl ρ 60225 → (vnl ρ 60353 = vnl ρ 60193 ∨ gF (vnl ρ 60097) (vnl ρ 60353) ≤ vnl ρ 60161) → (vnl ρ 60385 = vnl ρ 60225 ∨ vnl ρ 60161 < gF (vnl ρ 60097) (vnl ρ 60385 + 1)) → vnl ρ 60385 - vnl ρ 60353 ≤ n → AT X zVD c_goto0 5 ρ0 ρ q_gM := by
  intro n
  induction n with
  | zero =>
    intro ρ k1 k2 k4 a1 a2 r1 r2 r3 r4 l1 l2 l3 l4 l5 hn
    exact AT_M0 hv ρ k1 k2 k4 a1 a2 r1 r2 r3 r4 l1 l2 l3 l4 l5 (by omega)
  | succ n ih =>
    intro ρ k1 k2 k4 a1 a2 r1 r2 r3 r4 l1 l2 l3 l4 l5 hn
    have hd := gb_dn k2
    by_cases hlt : vnl ρ 60353 < vnl ρ 60385
    · have e1 : (ρ.2.1 60385 - ρ.2.1 60353).toInt = vnl ρ 60385 - vnl ρ 60353 := l_sub (by show _ ≤ vnl ρ 60385 - vnl ρ 60353; omega) (by show vnl ρ 60385 - vnl ρ 60353 ≤ _; omega)
      have e2 : (ρ.2.1 60385 - ρ.2.1 60353 + 1).toInt = vnl ρ 60385 - vnl ρ 60353 + 1 := by rw [l_add (y := 1) (by rw [e1]; show _ ≤ _ + (1 : Int); omega) (by rw [e1]; show _ + (1 : Int) ≤ _; omega), e1]; rfl
      have e3 : ((ρ.2.1 60385 - ρ.2.1 60353 + 1) / 2).toInt = (vnl ρ 60385 - vnl ρ 60353 + 1) / 2 := by rw [l_div (y := 2) (by rw [e2]; omega) (by decide), e2]; rfl
      have e4 : (ρ.2.1 60353 + (ρ.2.1 60385 - ρ.2.1 60353 + 1) / 2).toInt = vnl ρ 60353 + (vnl ρ 60385 - vnl ρ 60353 + 1) / 2 := by rw [l_add (by rw [e3]; show _ ≤ vnl ρ 60353 + _; omega) (by rw [e3]; show vnl ρ 60353 + _ ≤ _; omega), e3]; rfl
      generalize hmid : ρ.2.1 60353 + (ρ.2.1 60385 - ρ.2.1 60353 + 1) / 2 = mid at e4
      have hg : (mid + (mid / ρ.2.1 60097 * mid - ρ.2.1 60097 * (mid / ρ.2.1 60097 * (mid / ρ.2.1 60097 + 1) / 2))).toInt = gF (vnl ρ 60097) mid.toInt := gM_val (by omega) (by omega) hd
      by_cases hP : ρ.2.1 60161 < mid + (mid / ρ.2.1 60097 * mid - ρ.2.1 60097 * (mid / ρ.2.1 60097 * (mid / ρ.2.1 60097 + 1) / 2))
      · refine AT_of (q := q_gMN) rfl rfl (SEM_run kR_x kR_0 (Cs := []) (fun C hC => by cases hC) c_goto0_f (Q := w_gMN) hv 1500 (b1 := false) (b2 := true) k_gMN k1 (fok_cons ?_ (fok_cons ?_ k2)) iok_nil k4 (fun p hp ρ3 m1 m2 m3 m4 m5 => ?_))
        · exact decide_eq_true (lt_l hlt)
        · rw [← hmid] at hP; exact decide_eq_true hP
        · rw [List.mem_singleton.mp hp] at m2 m3 m5 ⊢
          have y60353 := tie2 (m5 _ (List.mem_cons_self))
          have y60385 := tie2 (m5 _ (List.mem_cons_of_mem _ (List.mem_cons_self)))
          have y60193 := tie2 (m5 _ (List.mem_cons_of_mem _ (List.mem_cons_of_mem _ (List.mem_cons_self))))
          have z60193 : vnl ρ3 60193 = vnl ρ 60193 := congrArg Int64.toInt y60193
          have y60225 := tie2 (m5 _ (List.mem_cons_of_mem _ (List.mem_cons_of_mem _ (List.mem_cons_of_mem _ (List.mem_cons_self)))))
          have z60225 : vnl ρ3 60225 = vnl ρ 60225 := congrArg Int64.toInt y60225
          have y60321 := tie2 (m5 _ (List.mem_cons_of_mem _ (List.mem_cons_of_mem _ (List.mem_cons_of_mem _ (List.mem_cons_of_mem _ (List.mem_cons_self))))))
          have z60321 : vnl ρ3 60321 = vnl ρ 60321 := congrArg Int64.toInt y60321
          have y60097 := tie2 (m5 _ (List.mem_cons_of_mem _ (List.mem_cons_of_mem _ (List.mem_cons_of_mem _ (List.mem_cons_of_mem _ (List.mem_cons_of_mem _ (List.mem_cons_self)))))))
          have z60097 : vnl ρ3 60097 = vnl ρ 60097 := congrArg Int64.toInt y60097
          have y60161 := tie2 (m5 _ (List.mem_cons_of_mem _ (List.mem_cons_of_mem _ (List.mem_cons_of_mem _ (List.mem_cons_of_mem _ (List.mem_cons_of_mem _ (List.mem_cons_of_mem _ (List.mem_cons_self))))))))
          have z60161 : vnl ρ3 60161 = vnl ρ 60161 := congrArg Int64.toInt y60161
          have hP := l_lt hP
          rw [hg] at hP
          have hh : vnl ρ3 60385 = mid.toInt - 1 := by
            have e9 : (mid - 1).toInt = mid.toInt - 1 := l_sub (y := 1) (by show _ ≤ _ - (1 : Int); omega) (by show _ - (1 : Int) ≤ _; omega)
            rw [← e9, ← hmid]
            exact congrArg Int64.toInt y60385
          have hl : vnl ρ3 60353 = vnl ρ 60353 := congrArg Int64.toInt y60353
          exact ih ρ3 m1 m2 m4 (by rw [z60193]; exact a1) (by rw [z60225]; exact a2) (by rw [z60193, z60321]; exact r1) (by rw [z60225, z60321]; exact r2) (by rw [z60193, z60321, z60097, z60161]; exact r3) (by rw [z60225, z60321, z60097, z60161]; exact r4) (by rw [z60193, hl]; exact l1) (by rw [hl, hh]; omega) (by rw [hh, z60225]; omega) (by rw [z60193, hl, z60097, z60161]; exact l4) (by right; rw [hh, z60097, z60161, Int.sub_add_cancel]; exact hP) (by rw [hh, hl]; omega)
      · refine AT_of (q := q_gMP) rfl rfl (SEM_run kR_x kR_0 (Cs := []) (fun C hC => by cases hC) c_goto0_f (Q := w_gMP) hv 1500 (b1 := false) (b2 := true) k_gMP k1 (fok_cons ?_ (fok_cons ?_ k2)) iok_nil k4 (fun p hp ρ3 m1 m2 m3 m4 m5 => ?_))
        · exact decide_eq_true (lt_l hlt)
        · rw [← hmid] at hP; exact decide_eq_false hP
        · rw [List.mem_singleton.mp hp] at m2 m3 m5 ⊢
          have y60353 := tie2 (m5 _ (List.mem_cons_self))
          have y60385 := tie2 (m5 _ (List.mem_cons_of_mem _ (List.mem_cons_self)))
          have y60193 := tie2 (m5 _ (List.mem_cons_of_mem _ (List.mem_cons_of_mem _ (List.mem_cons_self))))
          have z60193 : vnl ρ3 60193 = vnl ρ 60193 := congrArg Int64.toInt y60193
          have y60225 := tie2 (m5 _ (List.mem_cons_of_mem _ (List.mem_cons_of_mem _ (List.mem_cons_of_mem _ (List.mem_cons_self)))))
          have z60225 : vnl ρ3 60225 = vnl ρ 60225 := congrArg Int64.toInt y60225
          have y60321 := tie2 (m5 _ (List.mem_cons_of_mem _ (List.mem_cons_of_mem _ (List.mem_cons_of_mem _ (List.mem_cons_of_mem _ (List.mem_cons_self))))))
          have z60321 : vnl ρ3 60321 = vnl ρ 60321 := congrArg Int64.toInt y60321
          have y60097 := tie2 (m5 _ (List.mem_cons_of_mem _ (List.mem_cons_of_mem _ (List.mem_cons_of_mem _ (List.mem_cons_of_mem _ (List.mem_cons_of_mem _ (List.mem_cons_self)))))))
          have z60097 : vnl ρ3 60097 = vnl ρ 60097 := congrArg Int64.toInt y60097
          have y60161 := tie2 (m5 _ (List.mem_cons_of_mem _ (List.mem_cons_of_mem _ (List.mem_cons_of_mem _ (List.mem_cons_of_mem _ (List.mem_cons_of_mem _ (List.mem_cons_of_mem _ (List.mem_cons_self))))))))
          have z60161 : vnl ρ3 60161 = vnl ρ 60161 := congrArg Int64.toInt y60161
          have hP := l_nlt hP
          rw [hg] at hP
          have hl : vnl ρ3 60353 = mid.toInt := by
            rw [← hmid]
            exact congrArg Int64.toInt y60353
          have hh : vnl ρ3 60385 = vnl ρ 60385 := congrArg Int64.toInt y60385
          exact ih ρ3 m1 m2 m4 (by rw [z60193]; exact a1) (by rw [z60225]; exact a2) (by rw [z60193, z60321]; exact r1) (by rw [z60225, z60321]; exact r2) (by rw [z60193, z60321, z60097, z60161]; exact r3) (by rw [z60225, z60321, z60097, z60161]; exact r4) (by rw [z60193, hl]; omega) (by rw [hl, hh]; omega) (by rw [hh, z60225]; exact l3) (by right; rw [hl, z60097, z60161]; exact hP) (by rw [z60225, hh, z60097, z60161]; exact l5) (by rw [hh, hl]; omega)
    · exact AT_M0 hv ρ k1 k2 k4 a1 a2 r1 r2 r3 r4 l1 l2 l3 l4 l5 (by omega)
theorem AT_L0 {X : pX} {ρ0 : sR} (hv : vok X ρ0) (ρ : sR) (k1 : kok X ρ kR) (k2 : fok X ρ f_gb) (k4 : agrM 65536 c_goto0.2.2.2.2.1.1 c_goto0.2.2.2.2.1.2 ρ ρ0) (a1 : 0 ≤ vnl ρ 60193) (a2 : vnl ρ 60225 ≤ 2000000000) (g1 : vnl ρ 60193 ≤ vnl ρ 60257) (g2 : vnl ρ 60257 < vnl ρ 60289) (g3 : vnl ρ 60289 ≤ vnl ρ 60225) (g4 : vnl ρ 60257 = vnl ρ 60193 ∨ gF (vnl ρ 60097) (vnl ρ 60257) ≤ vnl ρ 60161) (g5 : vnl ρ 60161 < gF (vnl ρ 60097) (vnl ρ 60289)) (h1 : vnl ρ 60289 - vnl ρ 60257 ≤ 1) (i1 : 0 ≤ (ρ.1 60000).toInt) (i2 : (ρ.1 60000).toInt ≤ 31) : AT X zVD c_goto0 5 ρ0 ρ q_gL := by
  have e1 : (ρ.2.1 60289 - ρ.2.1 60257).toInt = vnl ρ 60289 - vnl ρ 60257 := l_sub (by show _ ≤ vnl ρ 60289 - vnl ρ 60257; omega) (by show vnl ρ 60289 - vnl ρ 60257 ≤ _; omega)
  refine AT_of (q := q_gL0) rfl rfl (SEM_run kR_x kR_0 (Cs := []) (fun C hC => by cases hC) c_goto0_f (Q := w_gL0) hv 1500 (b1 := true) (b2 := false) k_gL0 k1 (fok_cons ?_ (fok_cons ?_ (fok_cons ?_ k2))) iok_nil k4 (fun p hp ρ3 m1 m2 m3 m4 m5 => ?_))
  · exact decide_eq_false (fun q => by have := Int32.lt_iff_toInt_lt.mp q; have e : (0 : Int32).toInt = 0 := rfl; have q2 : (ρ.1 60000).toInt < (0 : Int32).toInt := this; omega)
  · exact decide_eq_false (fun q => by have := Int32.lt_iff_toInt_lt.mp q; have q2 : (31 : Int32).toInt < (ρ.1 60000).toInt := this; have e : (31 : Int32).toInt = 31 := rfl; omega)
  · exact decide_eq_false (nlt_l (show (ρ.2.1 60289 - ρ.2.1 60257).toInt ≤ (1 : Int) by rw [e1]; omega))
  · rw [List.mem_singleton.mp hp] at m2 m3 m5 ⊢
    have y60321 := tie2 (m5 _ (List.mem_cons_self))
    have y60353 := tie2 (m5 _ (List.mem_cons_of_mem _ (List.mem_cons_self)))
    have y60385 := tie2 (m5 _ (List.mem_cons_of_mem _ (List.mem_cons_of_mem _ (List.mem_cons_self))))
    have y60193 := tie2 (m5 _ (List.mem_cons_of_mem _ (List.mem_cons_of_mem _ (List.mem_cons_of_mem _ (List.mem_cons_self)))))
    have z60193 : vnl ρ3 60193 = vnl ρ 60193 := congrArg Int64.toInt y60193
    have y60225 := tie2 (m5 _ (List.mem_cons_of_mem _ (List.mem_cons_of_mem _ (List.mem_cons_of_mem _ (List.mem_cons_of_mem _ (List.mem_cons_self))))))
    have z60225 : vnl ρ3 60225 = vnl ρ 60225 := congrArg Int64.toInt y60225
    have y60097 := tie2 (m5 _ (List.mem_cons_of_mem _ (List.mem_cons_of_mem _ (List.mem_cons_of_mem _ (List.mem_cons_of_mem _ (List.mem_cons_of_mem _ (List.mem_cons_self)))))))
    have z60097 : vnl ρ3 60097 = vnl ρ 60097 := congrArg Int64.toInt y60097
    have y60161 := tie2 (m5 _ (List.mem_cons_of_mem _ (List.mem_cons_of_mem _ (List.mem_cons_of_mem _ (List.mem_cons_of_mem _ (List.mem_cons_of_mem _ (List.mem_cons_of_mem _ (List.mem_cons_self))))))))
    have z60161 : vnl ρ3 60161 = vnl ρ 60161 := congrArg Int64.toInt y60161
    have hR : vnl ρ3 60321 = vnl ρ 60257 := congrArg Int64.toInt y60321
    have hl : vnl ρ3 60353 = vnl ρ 60193 := congrArg Int64.toInt y60353
    have hh : vnl ρ3 60385 = vnl ρ 60225 := congrArg Int64.toInt y60385
    exact gM_at hv (vnl ρ 60225 - vnl ρ 60193).toNat ρ3 m1 m2 m4 (by rw [z60193]; exact a1) (by rw [z60225]; exact a2) (by rw [z60193, hR]; exact g1) (by rw [z60225, hR]; omega) (by rw [z60193, hR, z60097, z60161]; exact g4) (by right; rw [hR, z60097, z60161, show vnl ρ 60257 + 1 = vnl ρ 60289 by omega]; exact g5) (by rw [z60193, hl]; omega) (by rw [hl, hh]; omega) (by rw [hh, z60225]; omega) (by left; rw [hl, z60193]) (by left; rw [hh, z60225]) (by rw [hh, hl]; omega)
theorem gL_at {X : pX} {ρ0 : sR} (hv : vok X ρ0) : ∀ (n : Nat) (ρ : sR), kok X ρ kR → fok X ρ f_gb → agrM 65536 c_goto0.2.2.2.2.1.1 c_goto0.2.2.2.2.1.2 ρ ρ0 → 0 ≤ vnl ρ 60193 → vnl ρ 60225 ≤ 2000000000 → vnl ρ 60193 ≤ vnl ρ 60257 → vnl ρ 60257 < vnl ρ 60289 → vnl ρ 60289 ≤ vnl ρ 60225 → (vnl ρ 60257 = vnl ρ 60193 ∨ gF (vnl ρ 60097) (vnl ρ 60257) ≤ vnl ρ 60161) → vnl ρ 60161 < gF (vnl ρ 60097) (vnl ρ 60289) → vnl ρ 60289 - vnl ρ 60257 ≤ ((2 ^ n : Nat) : Int) → 0 ≤ (ρ.1 60000).toInt → (ρ.1 60000).toInt + n ≤ 31 → AT X zVD c_goto0 5 ρ0 ρ q_gL := by
  intro n
  induction n with
  | zero =>
    intro ρ k1 k2 k4 a1 a2 g1 g2 g3 g4 g5 hn i1 i2
    exact AT_L0 hv ρ k1 k2 k4 a1 a2 g1 g2 g3 g4 g5 (by simpa using hn) i1 (by omega)
  | succ n ih =>
    intro ρ k1 k2 k4 a1 a2 g1 g2 g3 g4 g5 hn i1 i2
    have hd := gb_dn k2
    by_cases h1 : vnl ρ 60289 - vnl ρ 60257 ≤ 1
    · exact AT_L0 hv ρ k1 k2 k4 a1 a2 g1 g2 g3 g4 g5 h1 i1 (by omega)
    · have e1 : (ρ.2.1 60289 - ρ.2.1 60257).toInt = vnl ρ 60289 - vnl ρ 60257 := l_sub (by show _ ≤ vnl ρ 60289 - vnl ρ 60257; omega) (by show vnl ρ 60289 - vnl ρ 60257 ≤ _; omega)
      have e3 : ((ρ.2.1 60289 - ρ.2.1 60257) / 2).toInt = (vnl ρ 60289 - vnl ρ 60257) / 2 := by rw [l_div (y := 2) (by rw [e1]; omega) (by decide), e1]; rfl
      have e4 : (ρ.2.1 60257 + (ρ.2.1 60289 - ρ.2.1 60257) / 2).toInt = vnl ρ 60257 + (vnl ρ 60289 - vnl ρ 60257) / 2 := by rw [l_add (by rw [e3]; show _ ≤ vnl ρ 60257 + _; omega) (by rw [e3]; show vnl ρ 60257 + _ ≤ _; omega), e3]; rfl
      have hpow : ((2 ^ (n + 1) : Nat) : Int) = 2 * ((2 ^ n : Nat) : Int) := by rw [Nat.pow_succ]; omega
      rw [hpow] at hn
      generalize ((2 ^ n : Nat) : Int) = z at hn ih
      generalize hmid : ρ.2.1 60257 + (ρ.2.1 60289 - ρ.2.1 60257) / 2 = mid at e4
      have hg : ((mid + mid / ρ.2.1 60097 * mid) - ρ.2.1 60097 * (mid / ρ.2.1 60097) * (mid / ρ.2.1 60097 + 1) / 2).toInt = gF (vnl ρ 60097) mid.toInt := gC_val (by omega) (by omega) hd
      have hi2 : (ρ.1 60000 + 1).toInt = (ρ.1 60000).toInt + 1 := s_add (y := 1) (by show _ ≤ _ + (1 : Int); omega) (by show _ + (1 : Int) ≤ _; omega)
      have f1 : sc X ρ (2, .arg 60000, .int 0) = false := decide_eq_false (fun q => by have := Int32.lt_iff_toInt_lt.mp q; have e : (0 : Int32).toInt = 0 := rfl; have q2 : (ρ.1 60000).toInt < (0 : Int32).toInt := this; omega)
      have f2 : sc X ρ (2, .int 31, .arg 60000) = false := decide_eq_false (fun q => by have := Int32.lt_iff_toInt_lt.mp q; have q2 : (31 : Int32).toInt < (ρ.1 60000).toInt := this; have e : (31 : Int32).toInt = 31 := rfl; omega)
      have f3 : sc X ρ (8, .long 1, .op2 .lsub (.arg 60289) (.arg 60257)) = true := decide_eq_true (lt_l (show (1 : Int) < (ρ.2.1 60289 - ρ.2.1 60257).toInt by rw [e1]; omega))
      by_cases hP : ρ.2.1 60161 < (mid + mid / ρ.2.1 60097 * mid) - ρ.2.1 60097 * (mid / ρ.2.1 60097) * (mid / ρ.2.1 60097 + 1) / 2
      · refine AT_of (q := q_gLN) rfl rfl (SEM_run kR_x kR_0 (Cs := []) (fun C hC => by cases hC) c_goto0_f (Q := w_gLN) hv 1500 (b1 := true) (b2 := false) k_gLN k1 (fok_cons f1 (fok_cons f2 (fok_cons f3 (fok_cons ?_ k2)))) iok_nil k4 (fun p hp ρ3 m1 m2 m3 m4 m5 => ?_))
        · rw [← hmid] at hP; exact decide_eq_true hP
        · rw [List.mem_singleton.mp hp] at m2 m3 m5 ⊢
          have y60257 := tie2 (m5 _ (List.mem_cons_self))
          have y60289 := tie2 (m5 _ (List.mem_cons_of_mem _ (List.mem_cons_self)))
          have y60000 := tie1 (m5 _ (List.mem_cons_of_mem _ (List.mem_cons_of_mem _ (List.mem_cons_self))))
          have y60193 := tie2 (m5 _ (List.mem_cons_of_mem _ (List.mem_cons_of_mem _ (List.mem_cons_of_mem _ (List.mem_cons_self)))))
          have z60193 : vnl ρ3 60193 = vnl ρ 60193 := congrArg Int64.toInt y60193
          have y60225 := tie2 (m5 _ (List.mem_cons_of_mem _ (List.mem_cons_of_mem _ (List.mem_cons_of_mem _ (List.mem_cons_of_mem _ (List.mem_cons_self))))))
          have z60225 : vnl ρ3 60225 = vnl ρ 60225 := congrArg Int64.toInt y60225
          have y60097 := tie2 (m5 _ (List.mem_cons_of_mem _ (List.mem_cons_of_mem _ (List.mem_cons_of_mem _ (List.mem_cons_of_mem _ (List.mem_cons_of_mem _ (List.mem_cons_self)))))))
          have z60097 : vnl ρ3 60097 = vnl ρ 60097 := congrArg Int64.toInt y60097
          have y60161 := tie2 (m5 _ (List.mem_cons_of_mem _ (List.mem_cons_of_mem _ (List.mem_cons_of_mem _ (List.mem_cons_of_mem _ (List.mem_cons_of_mem _ (List.mem_cons_of_mem _ (List.mem_cons_self))))))))
          have z60161 : vnl ρ3 60161 = vnl ρ 60161 := congrArg Int64.toInt y60161
          have hP := l_lt hP
          rw [hg] at hP
          have hb : vnl ρ3 60289 = mid.toInt := by
            rw [← hmid]
            exact congrArg Int64.toInt y60289
          have hg' : vnl ρ3 60257 = vnl ρ 60257 := congrArg Int64.toInt y60257
          have hi3 : (ρ3.1 60000).toInt = (ρ.1 60000).toInt + 1 := by rw [← hi2]; exact congrArg Int32.toInt y60000
          exact ih ρ3 m1 m2 m4 (by rw [z60193]; exact a1) (by rw [z60225]; exact a2) (by rw [z60193, hg']; exact g1) (by rw [hg', hb]; omega) (by rw [hb, z60225]; omega) (by rw [hg', z60193, z60097, z60161]; exact g4) (by rw [hb, z60097, z60161]; exact hP) (by rw [hb, hg']; omega) (by rw [hi3]; omega) (by rw [hi3]; omega)
      · refine AT_of (q := q_gLP) rfl rfl (SEM_run kR_x kR_0 (Cs := []) (fun C hC => by cases hC) c_goto0_f (Q := w_gLP) hv 1500 (b1 := true) (b2 := false) k_gLP k1 (fok_cons f1 (fok_cons f2 (fok_cons f3 (fok_cons ?_ k2)))) iok_nil k4 (fun p hp ρ3 m1 m2 m3 m4 m5 => ?_))
        · rw [← hmid] at hP; exact decide_eq_false hP
        · rw [List.mem_singleton.mp hp] at m2 m3 m5 ⊢
          have y60257 := tie2 (m5 _ (List.mem_cons_self))
          have y60289 := tie2 (m5 _ (List.mem_cons_of_mem _ (List.mem_cons_self)))
          have y60000 := tie1 (m5 _ (List.mem_cons_of_mem _ (List.mem_cons_of_mem _ (List.mem_cons_self))))
          have y60193 := tie2 (m5 _ (List.mem_cons_of_mem _ (List.mem_cons_of_mem _ (List.mem_cons_of_mem _ (List.mem_cons_self)))))
          have z60193 : vnl ρ3 60193 = vnl ρ 60193 := congrArg Int64.toInt y60193
          have y60225 := tie2 (m5 _ (List.mem_cons_of_mem _ (List.mem_cons_of_mem _ (List.mem_cons_of_mem _ (List.mem_cons_of_mem _ (List.mem_cons_self))))))
          have z60225 : vnl ρ3 60225 = vnl ρ 60225 := congrArg Int64.toInt y60225
          have y60097 := tie2 (m5 _ (List.mem_cons_of_mem _ (List.mem_cons_of_mem _ (List.mem_cons_of_mem _ (List.mem_cons_of_mem _ (List.mem_cons_of_mem _ (List.mem_cons_self)))))))
          have z60097 : vnl ρ3 60097 = vnl ρ 60097 := congrArg Int64.toInt y60097
          have y60161 := tie2 (m5 _ (List.mem_cons_of_mem _ (List.mem_cons_of_mem _ (List.mem_cons_of_mem _ (List.mem_cons_of_mem _ (List.mem_cons_of_mem _ (List.mem_cons_of_mem _ (List.mem_cons_self))))))))
          have z60161 : vnl ρ3 60161 = vnl ρ 60161 := congrArg Int64.toInt y60161
          have hP := l_nlt hP
          rw [hg] at hP
          have hg' : vnl ρ3 60257 = mid.toInt := by
            rw [← hmid]
            exact congrArg Int64.toInt y60257
          have hb : vnl ρ3 60289 = vnl ρ 60289 := congrArg Int64.toInt y60289
          have hi3 : (ρ3.1 60000).toInt = (ρ.1 60000).toInt + 1 := by rw [← hi2]; exact congrArg Int32.toInt y60000
          exact ih ρ3 m1 m2 m4 (by rw [z60193]; exact a1) (by rw [z60225]; exact a2) (by rw [z60193, hg']; omega) (by rw [hg', hb]; omega) (by rw [hb, z60225]; exact g3) (by right; rw [hg', z60097, z60161]; exact hP) (by rw [hb, z60097, z60161]; exact g5) (by rw [hb, hg']; omega) (by rw [hi3]; omega) (by rw [hi3]; omega)
theorem t_gA {X : pX} {ρ0 : sR} (hv : vok X ρ0) : CUTOK X kR zVD c_goto0 5 ρ0 q_gA := CUTOK_AT (fun ρ k1 k2 _ k4 => by
  have kb : fok X ρ f_gb := ⟨k2.1, fun f hf => k2.2 f (List.mem_append_right _ hf)⟩
  have hd := gb_dn kb
  have a1 : 0 ≤ vnl ρ 60193 := l_nlt (of_decide_eq_false (k2.2 ((8, .arg 60193, .long 0), false) (List.mem_append_left _ (List.mem_cons_self))))
  have a2 : vnl ρ 60225 ≤ 2000000000 := l_nlt (of_decide_eq_false (k2.2 ((8, .long 2000000000, .arg 60225), false) (List.mem_append_left _ (List.mem_cons_of_mem _ (List.mem_cons_of_mem _ (List.mem_cons_of_mem _ (List.mem_cons_self)))))))
  have a3 : vnl ρ 60193 ≤ 2000000000 := l_nlt (of_decide_eq_false (k2.2 ((8, .long 2000000000, .arg 60193), false) (List.mem_append_left _ (List.mem_cons_of_mem _ (List.mem_cons_self)))))
  by_cases hlt : vnl ρ 60193 < vnl ρ 60225
  · have hg : ((ρ.2.1 60225 + ρ.2.1 60225 / ρ.2.1 60097 * ρ.2.1 60225) - ρ.2.1 60097 * (ρ.2.1 60225 / ρ.2.1 60097) * (ρ.2.1 60225 / ρ.2.1 60097 + 1) / 2).toInt = gF (vnl ρ 60097) (vnl ρ 60225) := gC_val (show 0 ≤ vnl ρ 60225 by omega) a2 hd
    by_cases hP : ρ.2.1 60161 < (ρ.2.1 60225 + ρ.2.1 60225 / ρ.2.1 60097 * ρ.2.1 60225) - ρ.2.1 60097 * (ρ.2.1 60225 / ρ.2.1 60097) * (ρ.2.1 60225 / ρ.2.1 60097 + 1) / 2
    · refine AT_of (q := q_gAN) rfl rfl (SEM_run kR_x kR_0 (Cs := []) (fun C hC => by cases hC) c_goto0_f (Q := w_gAN) hv 1500 (b1 := true) (b2 := false) k_gAN k1 (fok_cons (decide_eq_true (lt_l hlt)) (fok_cons (decide_eq_true hP) kb)) iok_nil k4 (fun p hp ρ3 m1 m2 m3 m4 m5 => ?_))
      rw [List.mem_singleton.mp hp] at m2 m3 m5 ⊢
      have y60257 := tie2 (m5 _ (List.mem_cons_self))
      have y60289 := tie2 (m5 _ (List.mem_cons_of_mem _ (List.mem_cons_self)))
      have y60000 := tie1 (m5 _ (List.mem_cons_of_mem _ (List.mem_cons_of_mem _ (List.mem_cons_self))))
      have y60193 := tie2 (m5 _ (List.mem_cons_of_mem _ (List.mem_cons_of_mem _ (List.mem_cons_of_mem _ (List.mem_cons_self)))))
      have z60193 : vnl ρ3 60193 = vnl ρ 60193 := congrArg Int64.toInt y60193
      have y60225 := tie2 (m5 _ (List.mem_cons_of_mem _ (List.mem_cons_of_mem _ (List.mem_cons_of_mem _ (List.mem_cons_of_mem _ (List.mem_cons_self))))))
      have z60225 : vnl ρ3 60225 = vnl ρ 60225 := congrArg Int64.toInt y60225
      have y60097 := tie2 (m5 _ (List.mem_cons_of_mem _ (List.mem_cons_of_mem _ (List.mem_cons_of_mem _ (List.mem_cons_of_mem _ (List.mem_cons_of_mem _ (List.mem_cons_self)))))))
      have z60097 : vnl ρ3 60097 = vnl ρ 60097 := congrArg Int64.toInt y60097
      have y60161 := tie2 (m5 _ (List.mem_cons_of_mem _ (List.mem_cons_of_mem _ (List.mem_cons_of_mem _ (List.mem_cons_of_mem _ (List.mem_cons_of_mem _ (List.mem_cons_of_mem _ (List.mem_cons_self))))))))
      have z60161 : vnl ρ3 60161 = vnl ρ 60161 := congrArg Int64.toInt y60161
      have hP := l_lt hP
      rw [hg] at hP
      have hg' : vnl ρ3 60257 = vnl ρ 60193 := congrArg Int64.toInt y60257
      have hb : vnl ρ3 60289 = vnl ρ 60225 := congrArg Int64.toInt y60289
      have hi3 : (ρ3.1 60000).toInt = 0 := congrArg Int32.toInt y60000
      exact gL_at hv 31 ρ3 m1 m2 m4 (by rw [z60193]; exact a1) (by rw [z60225]; exact a2) (by rw [z60193, hg']; omega) (by rw [hg', hb]; exact hlt) (by rw [hb, z60225]; omega) (by left; rw [hg', z60193]) (by rw [hb, z60097, z60161]; exact hP) (by rw [hb, hg']; have e31 : ((2 ^ 31 : Nat) : Int) = 2147483648 := (by decide); rw [e31]; omega) (by rw [hi3]; omega) (by rw [hi3]; omega)
    · refine AT_of (q := q_gAP) rfl rfl (SEM_run kR_x kR_0 (Cs := []) (fun C hC => by cases hC) c_goto0_f (Q := w_gAP) hv 1500 (b1 := true) (b2 := false) k_gAP k1 (fok_cons (decide_eq_true (lt_l hlt)) (fok_cons (decide_eq_false hP) kb)) iok_nil k4 (fun p hp ρ3 m1 m2 m3 m4 m5 => ?_))
      rw [List.mem_singleton.mp hp] at m2 m3 m5 ⊢
      have y60321 := tie2 (m5 _ (List.mem_cons_self))
      have y60353 := tie2 (m5 _ (List.mem_cons_of_mem _ (List.mem_cons_self)))
      have y60385 := tie2 (m5 _ (List.mem_cons_of_mem _ (List.mem_cons_of_mem _ (List.mem_cons_self))))
      have y60193 := tie2 (m5 _ (List.mem_cons_of_mem _ (List.mem_cons_of_mem _ (List.mem_cons_of_mem _ (List.mem_cons_self)))))
      have z60193 : vnl ρ3 60193 = vnl ρ 60193 := congrArg Int64.toInt y60193
      have y60225 := tie2 (m5 _ (List.mem_cons_of_mem _ (List.mem_cons_of_mem _ (List.mem_cons_of_mem _ (List.mem_cons_of_mem _ (List.mem_cons_self))))))
      have z60225 : vnl ρ3 60225 = vnl ρ 60225 := congrArg Int64.toInt y60225
      have y60097 := tie2 (m5 _ (List.mem_cons_of_mem _ (List.mem_cons_of_mem _ (List.mem_cons_of_mem _ (List.mem_cons_of_mem _ (List.mem_cons_of_mem _ (List.mem_cons_self)))))))
      have z60097 : vnl ρ3 60097 = vnl ρ 60097 := congrArg Int64.toInt y60097
      have y60161 := tie2 (m5 _ (List.mem_cons_of_mem _ (List.mem_cons_of_mem _ (List.mem_cons_of_mem _ (List.mem_cons_of_mem _ (List.mem_cons_of_mem _ (List.mem_cons_of_mem _ (List.mem_cons_self))))))))
      have z60161 : vnl ρ3 60161 = vnl ρ 60161 := congrArg Int64.toInt y60161
      have hP := l_nlt hP
      rw [hg] at hP
      have hR : vnl ρ3 60321 = vnl ρ 60225 := congrArg Int64.toInt y60321
      have hl : vnl ρ3 60353 = vnl ρ 60193 := congrArg Int64.toInt y60353
      have hh : vnl ρ3 60385 = vnl ρ 60225 := congrArg Int64.toInt y60385
      exact gM_at hv (vnl ρ 60225 - vnl ρ 60193).toNat ρ3 m1 m2 m4 (by rw [z60193]; exact a1) (by rw [z60225]; exact a2) (by rw [z60193, hR]; omega) (by rw [z60225, hR]; omega) (by right; rw [hR, z60097, z60161]; exact hP) (by left; rw [hR, z60225]) (by rw [z60193, hl]; omega) (by rw [hl, hh]; omega) (by rw [hh, z60225]; omega) (by left; rw [hl, z60193]) (by left; rw [hh, z60225]) (by rw [hh, hl]; omega)
  · exact AT_of (q := q_gA0) rfl rfl (SEM_run kR_x kR_0 (Cs := []) (fun C hC => by cases hC) c_goto0_f (Q := w_gA0) hv 1500 (b1 := true) (b2 := true) k_gA0 k1 (fok_cons (decide_eq_false (nlt_l a1)) (fok_cons (decide_eq_false (nlt_l a3)) (fok_cons (decide_eq_false (nlt_l (show vnl ρ 60225 ≤ vnl ρ 60193 by omega))) kb))) iok_nil k4 (fun p hp => by cases hp)))
theorem s_goto0 {X : pX} : SREL X pF pdfl mt_all kR zVD c_goto0 := SREL_QC kR_x kR_0 (Cs := [(zVD, c_brake0)]) (fun C hC => by rw [List.mem_singleton.mp hC]; exact s_brake0) (d := 5) rfl c_goto0_f (Q := [q_gA]) (fun ρ0 hv q hq => by rw [List.mem_singleton.mp hq]; exact t_gA hv) (QC_run 3000 e_goto0)

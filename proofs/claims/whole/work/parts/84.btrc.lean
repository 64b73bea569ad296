/-! ===== ... the ring and the row stay the same ===== -/
theorem ring_get {f g : Nat → Int32} {p n : Int} (h : aring f g p n = true) {j : Nat} (hj : (j : Int) < n) : f ((p.toNat + j) % 32) = g j := of_decide_eq_true (List.all_eq_true.mp h j (List.mem_range.mpr (by omega)))
theorem ring_of {f g : Nat → Int32} {p n : Int} (h : ∀ j : Nat, (j : Int) < n → f ((p.toNat + j) % 32) = g j) : aring f g p n = true := List.all_eq_true.mpr (fun j hj => decide_eq_true (h j (by have := List.mem_range.mp hj; omega)))
theorem aden_rsh {X : pX} {ρ : sR} {b : sT} {f : Nat → sT} {j : Nat} : ∀ m : Nat, m ≤ 100 → j < m → aden X ρ b ((List.range m).reverse.map (fun k => (Jvm.Term.int (Int32.ofNat k), f k))) j = sv X ρ (f j)
  | 0, _, h => by omega
  | m + 1, h1, h2 => by
    rw [List.range_succ, List.reverse_append, List.reverse_singleton, List.singleton_append, List.map_cons]
    have e : (sd X ρ (Jvm.Term.int (Int32.ofNat m))).1.toNatClampNeg = m := by
      show (Int32.ofNat m).toNatClampNeg = m
      rw [s_nat, Int32.toInt_ofNat_small (by omega)]
      omega
    unfold aden
    dsimp only
    rw [e]
    by_cases h : m = j
    · rw [if_pos h, h]
    · rw [if_neg h]
      exact aden_rsh m (by omega) (by omega)
theorem bd_i {X : pX} {ρ : sR} {a j : Nat} (h : a % 2 = 0) : bden X ρ (.arg a) j = .int (ρ.2.2.1 a j) := by
  unfold bden
  dsimp only
  rw [if_neg (by omega)]
theorem tr_end {X : pX} {ρ0 ρ : sR} (hv : vok X ρ0) (k1 : kok X ρ kR) (hv1 : vok X ρ) (k4 : agrM 65536 c_addtr0.2.2.2.2.1.1 c_addtr0.2.2.2.2.1.2 ρ ρ0) (h : aring (ρ.2.2.1 2880) (ρ.2.2.1 19616) (ρ.1 1300).toInt (ρ.1 1302).toInt = true) : AT X zWP c_addtr0 2 ρ0 ρ q_te :=
  AT_of (q := q_tn) rfl rfl (CUT_run kR_x kR_0 (Cs := []) (fun C hC => by cases hC) c_addtr0_f (Q := []) hv (fun q hq => by cases hq) 100 (b1 := true) (b2 := true) k_tn ρ k1 ⟨hv1, fun f hf => by rw [List.mem_singleton.mp hf]; exact h⟩ (fun c hc => by cases hc) k4)
theorem tr_at {X : pX} {ρ0 : sR} (hv : vok X ρ0) : CUTOK X kR zWP c_addtr0 2 ρ0 q_t0 := by
  refine CUTOK_AT (fun ρ k1 k2 k3 k4 => ?_)
  have hr : aring (ρ.2.2.1 2880) (ρ.2.2.1 19616) (ρ.1 1300).toInt (ρ.1 1302).toInt = true := k2.2 _ List.mem_cons_self
  have hF0 : 0 ≤ (ρ.1 1300).toInt ∧ (ρ.1 1300).toInt ≤ 31 := k2.1.1 1300 (0, 31) rfl
  have hS0 : 0 ≤ (ρ.1 1302).toInt ∧ (ρ.1 1302).toInt ≤ 32 := k2.1.1 1302 (0, 32) rfl
  by_cases hs : (ρ.1 1302).toInt < 32
  · refine AT_of (q := q_t1) rfl rfl (SEM_runB kR_x kR_0 (Cs := []) (fun C hC => by cases hC) c_addtr0_f (Q := w_t1) hv 2500 (b1 := true) (b2 := true) k_t1 k1 ⟨k2.1, fun f hf => ?_⟩ (fun c hc => by cases hc) k4 (fun p hp ρ3 m1 m2 m3 m4 m5 m6 => ?_))
    · rw [List.mem_singleton.mp hf]
      exact decide_eq_true (Int32.lt_iff_toInt_lt.mpr hs)
    · rw [List.mem_singleton.mp hp] at m2 m3 m5 m6 ⊢
      have eF : ρ3.1 1300 = ρ.1 1300 := congrArg Prod.fst (m5 (1300, .arg 1300) List.mem_cons_self)
      have eS : ρ3.1 1302 = ρ.1 1302 + 1 := congrArg Prod.fst (m5 (1302, .add (.arg 1302) (.int 1)) (List.mem_cons_of_mem _ List.mem_cons_self))
      have eS2 : (ρ.1 1302 + 1).toInt = (ρ.1 1302).toInt + 1 := s_add (y := 1) (by show _ ≤ _ + (1 : Int); omega) (by show _ + (1 : Int) ≤ _; omega)
      have eA : (ρ.1 1300 + ρ.1 1302).toInt = (ρ.1 1300).toInt + (ρ.1 1302).toInt := s_add (by omega) (by omega)
      have eR : (ρ.1 1300 + ρ.1 1302 - (ρ.1 1300 + ρ.1 1302) / 32 * 32).toInt = ((ρ.1 1300).toInt + (ρ.1 1302).toInt) % 32 := by
        rw [s_rem (by omega) (by decide), eA]
        rfl
      have gC : ∀ j, ρ3.2.2.1 2880 j = if (ρ.1 1300 + ρ.1 1302 - (ρ.1 1300 + ρ.1 1302) / 32 * 32).toNatClampNeg = j then ρ.1 60000 else ρ.2.2.1 2880 j := fun j => by
        have h := m6 (2880, .arg 2880, [(.rem (.add (.arg 1300) (.arg 1302)) (.int 32), .arg 60000)]) List.mem_cons_self j
        rw [bd_i (by decide)] at h
        unfold aden at h
        dsimp only at h
        by_cases hc : (sd X ρ (Jvm.Term.rem (.add (.arg 1300) (.arg 1302)) (.int 32))).1.toNatClampNeg = j
        · rw [if_pos hc] at h
          exact Eq.trans (Value.int.inj h) (if_pos hc).symm
        · rw [if_neg hc] at h
          exact Eq.trans (Value.int.inj (h.trans (bd_i (by decide)))) (if_neg hc).symm
      have gM : ∀ j, ρ3.2.2.1 19616 j = if (ρ.1 1302).toNatClampNeg = j then ρ.1 60000 else ρ.2.2.1 19616 j := fun j => by
        have h := m6 (19616, .arg 19616, [(.arg 1302, .arg 60000)]) (List.mem_cons_of_mem _ List.mem_cons_self) j
        rw [bd_i (by decide)] at h
        unfold aden at h
        dsimp only at h
        by_cases hc : (sd X ρ (Jvm.Term.arg 1302)).1.toNatClampNeg = j
        · rw [if_pos hc] at h
          exact Eq.trans (Value.int.inj h) (if_pos hc).symm
        · rw [if_neg hc] at h
          exact Eq.trans (Value.int.inj (h.trans (bd_i (by decide)))) (if_neg hc).symm
      refine tr_end hv m1 m2.1 m4 (ring_of (fun j hj => ?_))
      rw [eS, eS2] at hj
      rw [eF, gC, gM]
      by_cases he : (j : Int) = (ρ.1 1302).toInt
      · rw [if_pos (by rw [s_nat, eR]; omega), if_pos (by rw [s_nat]; omega)]
      · rw [if_neg (by rw [s_nat, eR]; omega), if_neg (by rw [s_nat]; omega)]
        exact ring_get hr (by omega)
  · have z32 : (32 : Int32).toInt = 32 := rfl
    have e32 : ρ.1 1302 = 32 := Int32.toInt_inj.mp (by rw [z32]; omega)
    refine AT_of (q := q_t2) rfl rfl (SEM_runB kR_x kR_0 (Cs := []) (fun C hC => by cases hC) c_addtr0_f (Q := w_t2) hv 2500 (b1 := true) (b2 := true) k_t2 k1 ⟨k2.1, fun f hf => ?_⟩ (fun c hc => by cases hc) k4 (fun p hp ρ3 m1 m2 m3 m4 m5 m6 => ?_))
    · rw [List.mem_singleton.mp hf]
      exact decide_eq_true (show ρ.1 1302 = 32 from e32)
    · rw [List.mem_singleton.mp hp] at m2 m3 m5 m6 ⊢
      have eF : ρ3.1 1300 = ρ.1 1300 + 1 - (ρ.1 1300 + 1) / 32 * 32 := congrArg Prod.fst (m5 (1300, .rem (.add (.arg 1300) (.int 1)) (.int 32)) List.mem_cons_self)
      have eS : ρ3.1 1302 = 32 := by
        have h : ρ3.1 1302 = ρ.1 1302 - 1 + 1 := congrArg Prod.fst (m5 (1302, .add (.sub (.arg 1302) (.int 1)) (.int 1)) (List.mem_cons_of_mem _ List.mem_cons_self))
        rw [h, e32]
        rfl
      have eA : (ρ.1 1300 + 1).toInt = (ρ.1 1300).toInt + 1 := s_add (y := 1) (by show _ ≤ _ + (1 : Int); omega) (by show _ + (1 : Int) ≤ _; omega)
      have eR : (ρ.1 1300 + 1 - (ρ.1 1300 + 1) / 32 * 32).toInt = ((ρ.1 1300).toInt + 1) % 32 := by
        rw [s_rem (by omega) (by decide), eA]
        rfl
      have gC : ∀ j, ρ3.2.2.1 2880 j = if (ρ.1 1300).toNatClampNeg = j then ρ.1 60000 else ρ.2.2.1 2880 j := fun j => by
        have h := m6 (2880, .arg 2880, [(.arg 1300, .arg 60000)]) List.mem_cons_self j
        rw [bd_i (by decide)] at h
        unfold aden at h
        dsimp only at h
        by_cases hc : (sd X ρ (Jvm.Term.arg 1300)).1.toNatClampNeg = j
        · rw [if_pos hc] at h
          exact Eq.trans (Value.int.inj h) (if_pos hc).symm
        · rw [if_neg hc] at h
          exact Eq.trans (Value.int.inj (h.trans (bd_i (by decide)))) (if_neg hc).symm
      have hM := m6 (19616, .arg 19616, (.int 31, .arg 60000) :: ((List.range 31).reverse.map (fun k => (Jvm.Term.int (Int32.ofNat k), Jvm.Term.elem (.arg 19616) (.int (Int32.ofNat (k + 1))))))) (List.mem_cons_of_mem _ List.mem_cons_self)
      have gM : ∀ j, j < 32 → ρ3.2.2.1 19616 j = if j = 31 then ρ.1 60000 else ρ.2.2.1 19616 (j + 1) := fun j hj => by
        have h := hM j
        rw [bd_i (by decide)] at h
        apply Value.int.inj
        rw [h]
        unfold aden
        dsimp only
        have e31 : (sd X ρ (Jvm.Term.int 31)).1.toNatClampNeg = 31 := rfl
        rw [e31]
        by_cases hj31 : j = 31
        · subst hj31
          rw [if_pos rfl, if_pos rfl]
          rfl
        · rw [if_neg hj31, if_neg (fun q : 31 = j => hj31 q.symm), aden_rsh 31 (by decide) (by omega), sv_int rfl]
          show Value.int (ρ.2.2.1 19616 (Int32.ofNat (j + 1)).toNatClampNeg) = _
          rw [s_nat, Int32.toInt_ofNat_small (by omega)]
          rfl
      refine tr_end hv m1 m2.1 m4 (ring_of (fun j hj => ?_))
      rw [eS] at hj
      have hj : (j : Int) < 32 := hj
      rw [gM j (by omega), eF, eR, gC]
      by_cases he : j = 31
      · rw [if_pos he, if_pos (by rw [s_nat]; omega)]
      · rw [if_neg he, if_neg (by rw [s_nat]; omega)]
        have h9 := ring_get hr (j := j + 1) (by omega)
        have e9 : ((((ρ.1 1300).toInt + 1) % 32).toNat + j) % 32 = ((ρ.1 1300).toInt.toNat + (j + 1)) % 32 := by omega
        rw [e9]
        exact h9
theorem s_addtr0 {X : pX} : SREL X pF pdfl mt_all kR zWP c_addtr0 := SREL_cut kR_x kR_0 (Cs := []) (fun C hC => by cases hC) (d := 2) rfl c_addtr0_f (Q := [q_t0]) (fun ρ0 hv q hq => by rw [List.mem_singleton.mp hq]; exact tr_at hv) 100 e_addtr0

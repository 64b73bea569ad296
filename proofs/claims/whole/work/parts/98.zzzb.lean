set_option maxRecDepth 20000
/-! ===== maps that are wrong have their first values again ===== -/
theorem ap157 {f g : Nat → Int64} {h1 h2 : Nat → Int32} {x y d n : Int} {z : (Nat → Int32) × (Nat → Int64)} : apred 157 [((h1, f), x), ((h2, g), y), (z, d)] n = (List.range 156).all (fun j => decide (j = 1) || decide ((f j).toInt = amnd g d n.toNat j)) := rfl
theorem k157g {X : pX} {ρ : sR} {a b e : Nat} {n : Int32} (ha : a % 2 = 1) (hb : b % 2 = 1) (he : e % 2 = 0) : sc X ρ (157, .add (.elem (.arg a) (.int 0)) (.add (.elem (.arg b) (.int 0)) (.arg e)), .int n) = true ↔ ∀ j : Nat, j < 156 → j = 1 ∨ (ρ.2.2.2.1 a j).toInt = amnd (ρ.2.2.2.1 b) (ρ.1 e).toInt n.toInt.toNat j := by
  have e1 : ∀ x, x % 2 = 1 → aarr ρ (.elem (.arg x) (.int 0)) = (fun _ => 0, ρ.2.2.2.1 x) := fun x hx => by
    unfold aarr
    simp only []
    rw [if_pos hx]
  have e3 : (if sk (.arg e) = 1 then (sd X ρ (.arg e)).2.toInt else (sd X ρ (.arg e)).1.toInt) = (ρ.1 e).toInt := if_neg (show ¬ e % 2 = 1 by omega)
  have h3 : aits X ρ (.add (.elem (.arg a) (.int 0)) (.add (.elem (.arg b) (.int 0)) (.arg e))) = [(aarr ρ (.elem (.arg a) (.int 0)), if sk (.elem (.arg a) (.int 0)) = 1 then (sd X ρ (.elem (.arg a) (.int 0))).2.toInt else (sd X ρ (.elem (.arg a) (.int 0))).1.toInt), (aarr ρ (.elem (.arg b) (.int 0)), if sk (.elem (.arg b) (.int 0)) = 1 then (sd X ρ (.elem (.arg b) (.int 0))).2.toInt else (sd X ρ (.elem (.arg b) (.int 0))).1.toInt), (aarr ρ (.arg e), if sk (.arg e) = 1 then (sd X ρ (.arg e)).2.toInt else (sd X ρ (.arg e)).1.toInt)] := rfl
  show (Nat.ble 100 157 && apred 157 (aits X ρ (.add (.elem (.arg a) (.int 0)) (.add (.elem (.arg b) (.int 0)) (.arg e)))) (sn X ρ (.int n))) = true ↔ _
  rw [show Nat.ble 100 157 = true from rfl, Bool.true_and, h3]
  rw [e1 a ha, e1 b hb, e3, ap157, show sn X ρ (.int n) = n.toInt from rfl]
  simp only [List.all_eq_true, List.mem_range, Bool.or_eq_true, decide_eq_true_eq]
theorem k157 {X : pX} {ρ : sR} {n : Int32} : sc X ρ (157, .add (.elem (.arg 64321) (.int 0)) (.add (.elem (.arg 64353) (.int 0)) (.arg 1308)), .int n) = true ↔ ∀ j : Nat, j < 156 → j = 1 ∨ (ρ.2.2.2.1 64321 j).toInt = amnd (ρ.2.2.2.1 64353) (ρ.1 1308).toInt n.toInt.toNat j := k157g (by decide) (by decide) (by decide)
theorem k158 {X : pX} {ρ : sR} {n : Int32} : sc X ρ (158, .elem (.arg 64353) (.int 0), .int n) = true ↔ ∀ m ∈ ampm.take n.toInt.toNat, amcode (ρ.2.2.2.1 64353) m (ρ.2.2.2.1 64353 m).toInt.toNat = 0 := by
  show ((ampm.take n.toInt.toNat).all (fun m => decide (amcode (ρ.2.2.2.1 64353) m (ρ.2.2.2.1 64353 m).toInt.toNat = 0))) = true ↔ _
  simp only [List.all_eq_true, decide_eq_true_eq]
theorem amc_c {f g : Nat → Int64} {m n : Nat} (h : ∀ i, i < n → f (m + 1 + i) = g (m + 1 + i)) : amcode f m n = amcode g m n := by
  unfold amcode
  have e1 : (List.range n).all (fun i => !(decide ((f (m + 1 + i)).toInt = 0))) = (List.range n).all (fun i => !(decide ((g (m + 1 + i)).toInt = 0))) := by
    rw [Bool.eq_iff_iff, List.all_eq_true, List.all_eq_true]
    exact ⟨fun q i hi => by rw [← h i (List.mem_range.mp hi)]; exact q i hi, fun q i hi => by rw [h i (List.mem_range.mp hi)]; exact q i hi⟩
  have e2 : (List.range n).map (fun i => (f (m + 1 + i)).toInt % 256) = (List.range n).map (fun i => (g (m + 1 + i)).toInt % 256) := List.map_congr_left (fun i hi => by rw [h i (List.mem_range.mp hi)])
  rw [e1, e2]
theorem ev_mp : amps.all (fun m => match evt[m]? with
  | some r => decide (0 ≤ r.1) && decide (r.2.1 ≤ 4)
  | none => false) = true := by decide +kernel
theorem ev_m4 {m : Nat} {v : Int} (hm : m ∈ amps) (h : evk m v = true) : 0 ≤ v ∧ v ≤ 4 := by
  have h1 := List.all_eq_true.mp ev_mp m hm
  unfold evk at h
  split at h1
  · next r hr =>
    rw [hr] at h
    obtain ⟨lo, hi, s⟩ := r
    simp only [Bool.and_eq_true, decide_eq_true_eq] at h h1
    omega
  · cases h1
theorem amp_k : (List.range 8).all (fun K => (List.range 156).all (fun j => match amps[K]? with
  | some m => !(decide (m ≤ j) && decide (j < m + 5)) || decide ((amps.take K).find? (fun m => decide (m ≤ j) && decide (j < m + 5)) = none)
  | none => true)) = true := by decide +kernel
theorem amp_n {K j m : Nat} (hK : K < 8) (hj : j < 156) (hm : amps[K]? = some m) (h1 : m ≤ j) (h2 : j < m + 5) : (amps.take K).find? (fun m => decide (m ≤ j) && decide (j < m + 5)) = none := by
  have h := List.all_eq_true.mp (List.all_eq_true.mp amp_k K (List.mem_range.mpr hK)) j (List.mem_range.mpr hj)
  rw [hm] at h
  simp only [Bool.or_eq_true, Bool.not_eq_true', Bool.and_eq_false_iff, decide_eq_false_iff_not, decide_eq_true_eq] at h
  rcases h with h | h
  · omega
  · exact h
theorem amp_t {K m : Nat} (hm : amps[K]? = some m) : amps.take (K + 1) = amps.take K ++ [m] := by
  rw [List.take_add_one, hm]
  rfl
theorem amn_s {g : Nat → Int64} {d : Int} {K m j : Nat} (hK : K < 8) (hj : j < 156) (hm : amps[K]? = some m) : amnd g d (K + 1) j = if m ≤ j ∧ j < m + 5 then (if amcode g m (g m).toInt.toNat = 0 then (g j).toInt else afst d j) else amnd g d K j := by
  unfold amnd
  rw [amp_t hm, List.find?_append]
  by_cases h : m ≤ j ∧ j < m + 5
  · rw [if_pos h, amp_n hK hj hm h.1 h.2]
    have e : ([m] : List Nat).find? (fun m => decide (m ≤ j) && decide (j < m + 5)) = some m := by
      rw [List.find?_cons_of_pos (by simp only [Bool.and_eq_true, decide_eq_true_eq]; exact h)]
    rw [e]
    rfl
  · rw [if_neg h]
    have e : ([m] : List Nat).find? (fun m => decide (m ≤ j) && decide (j < m + 5)) = none := by
      rw [List.find?_cons_of_neg (by simp only [Bool.and_eq_true, decide_eq_true_eq]; exact h)]
      rfl
    rw [e, Option.or_none]
theorem fiv_w {f g : Nat → Int64} {m : Nat} {d : Int} {v0 v1 v2 v3 v4 : Int64} (h : ∀ j, Value.long (g j) = if m + 4 = j then Value.long v4 else if m + 3 = j then Value.long v3 else if m + 2 = j then Value.long v2 else if m + 1 = j then Value.long v1 else if m = j then Value.long v0 else Value.long (f j)) (e0 : afst d (m + 0) = v0.toInt) (e1 : afst d (m + 1) = v1.toInt) (e2 : afst d (m + 2) = v2.toInt) (e3 : afst d (m + 3) = v3.toInt) (e4 : afst d (m + 4) = v4.toInt) : (∀ j : Nat, ¬ (m ≤ j ∧ j < m + 5) → g j = f j) ∧ ∀ j : Nat, m ≤ j → j < m + 5 → (g j).toInt = afst d j := by
  constructor
  · intro j hj
    have := h j
    rw [if_neg (by omega), if_neg (by omega), if_neg (by omega), if_neg (by omega), if_neg (by omega)] at this
    exact Value.long.inj this
  · intro j h1 h2
    have hh := h j
    rcases (show j = m + 0 ∨ j = m + 1 ∨ j = m + 2 ∨ j = m + 3 ∨ j = m + 4 by omega) with rfl | rfl | rfl | rfl | rfl
    · rw [if_neg (by omega), if_neg (by omega), if_neg (by omega), if_neg (by omega), if_pos (by omega)] at hh
      rw [Value.long.inj hh]
      exact e0.symm
    · rw [if_neg (by omega), if_neg (by omega), if_neg (by omega), if_pos (by omega)] at hh
      rw [Value.long.inj hh, e1]
    · rw [if_neg (by omega), if_neg (by omega), if_pos (by omega)] at hh
      rw [Value.long.inj hh, e2]
    · rw [if_neg (by omega), if_pos (by omega)] at hh
      rw [Value.long.inj hh, e3]
    · rw [if_pos (by omega)] at hh
      rw [Value.long.inj hh, e4]
theorem s9_n {X : pX} {ρ : sR} {ix s p : Int32} (h : p.toInt = aslot ix.toInt s.toInt) : sc X ρ (109, .add (.int ix) (.int s), .int p) = true := s9_i (k := s) rfl rfl h
theorem amn_z {g : Nat → Int64} {d : Int} {j : Nat} : amnd g d 0 j = (g j).toInt := rfl
theorem amn_i {g : Nat → Int64} {d : Int} {K m j : Nat} (hK : K < 8) (hj : j < 156) (hm : amps[K]? = some m) (h1 : m ≤ j) (h2 : j < m + 5) : amnd g d K j = (g j).toInt := by
  unfold amnd
  rw [amp_n hK hj hm h1 h2]
/-- the class has looked at one map more -/
theorem amn_c {A A' B : Nat → Int64} {d : Int} {K m : Nat} (hK : K < 8) (hm : amps[K]? = some m) (h : ∀ j : Nat, j < 156 → j = 1 ∨ (A j).toInt = amnd B d K j) (hb : ∀ j : Nat, j < 156 → evk j (B j).toInt = true) (hA : (amcode A m (A m).toInt.toNat = 0 ∧ ∀ j : Nat, j < 156 → A' j = A j) ∨ (¬ amcode A m (A m).toInt.toNat = 0 ∧ ∀ j : Nat, j < 156 → (A' j).toInt = if m ≤ j ∧ j < m + 5 then afst d j else (A j).toInt)) : ∀ j : Nat, j < 156 → j = 1 ∨ (A' j).toInt = amnd B d (K + 1) j := by
  have hmm : m ∈ amps := List.mem_of_getElem? hm
  have m5 : m + 5 ≤ 156 ∧ 1 < m := by
    have := List.all_eq_true.mp (by decide +kernel : amps.all (fun m => decide (m + 5 ≤ 156) && decide (1 < m)) = true) m hmm
    simpa using this
  have hin : ∀ j : Nat, m ≤ j → j < m + 5 → A j = B j := fun j h1 h2 => by
    have := (h j (by omega)).resolve_left (by omega)
    rw [amn_i hK (by omega) hm h1 h2] at this
    exact Int64.toInt_inj.mp this
  obtain ⟨v0, v4⟩ := ev_m4 hmm (hb m (by omega))
  have ec : amcode A m (A m).toInt.toNat = amcode B m (B m).toInt.toNat := by
    rw [hin m (by omega) (by omega)]
    exact amc_c (fun i hi => hin _ (by omega) (by omega))
  intro j hj
  rw [amn_s hK hj hm]
  rcases hA with ⟨hc, hA⟩ | ⟨hc, hA⟩
  · rw [hA j hj]
    by_cases hi : m ≤ j ∧ j < m + 5
    · rw [if_pos hi, if_pos (ec.symm.trans hc), hin j hi.1 hi.2]
      exact Or.inr rfl
    · rw [if_neg hi]
      exact h j hj
  · rw [hA j hj]
    by_cases hi : m ≤ j ∧ j < m + 5
    · rw [if_pos hi, if_pos hi, if_neg (fun q => hc (ec.trans q))]
      exact Or.inr rfl
    · rw [if_neg hi, if_neg hi]
      exact h j hj
theorem amf_k : (List.range 4).all (fun d => amps.all (fun m => (decide (afst (d : Nat) m = 0) || (decide (afst (d : Nat) m = 1) && (!(decide (afst (d : Nat) (m + 1) = 0)) && decide (afst (d : Nat) (m + 1) % 256 ≤ 64)))))) = true := evf_m
theorem amf_0 {g : Nat → Int64} {d : Int} {m : Nat} (h0 : 0 ≤ d) (h4 : d < 4) (hm : m ∈ amps) (hg : ∀ j : Nat, m ≤ j → j < m + 5 → (g j).toInt = afst d j) : amcode g m (g m).toInt.toNat = 0 := by
  have h := List.all_eq_true.mp (List.all_eq_true.mp amf_k d.toNat (List.mem_range.mpr (by omega))) m hm
  rw [show ((d.toNat : Nat) : Int) = d by omega] at h
  simp only [Bool.or_eq_true, Bool.and_eq_true, Bool.not_eq_true', decide_eq_true_eq, decide_eq_false_iff_not] at h
  rw [hg m (by omega) (by omega)]
  rcases h with e | ⟨e, e1, e2⟩
  · rw [e]; rfl
  · rw [e]
    refine am_ok (n := 1) (fun i hi => ?_) ?_
    · rw [show i = 0 by omega, hg _ (by omega) (by omega)]
      exact e1
    · show (([0] : List Nat).map _).sum ≤ 64
      simp only [List.map_cons, List.map_nil, List.sum_cons, List.sum_nil, Nat.add_zero, Int.add_zero]
      rw [hg _ (by omega) (by omega)]
      exact e2
theorem amp_d : amps.all (fun m => amps.all (fun m' => decide (m = m') || (decide (m + 5 ≤ m') || decide (m' + 5 ≤ m)))) = true := by decide +kernel
theorem amp_x {m m' : Nat} (h : m ∈ amps) (h' : m' ∈ amps) (hn : ¬ m = m') : m + 5 ≤ m' ∨ m' + 5 ≤ m := by
  have h := List.all_eq_true.mp (List.all_eq_true.mp amp_d m h) m' h'
  simp only [Bool.or_eq_true, decide_eq_true_eq] at h
  rcases h with h | h
  · exact absurd h hn
  · exact h
/-- another map than the one that has its first values again is as it was -/
theorem amo_c {B B' : Nat → Int64} {m m' : Nat} (hm : m ∈ amps) (hm' : m' ∈ amps) (hn : ¬ m' = m) (hb : ∀ j : Nat, j < 156 → evk j (B j).toInt = true) (hB : ∀ j : Nat, j < 156 → ¬ (m ≤ j ∧ j < m + 5) → B' j = B j) : amcode B' m' (B' m').toInt.toNat = amcode B m' (B m').toInt.toNat := by
  have dj := amp_x hm' hm hn
  have m5 : m' + 5 ≤ 156 := by
    have := List.all_eq_true.mp (by decide +kernel : amps.all (fun m => decide (m + 5 ≤ 156)) = true) m' hm'
    exact of_decide_eq_true this
  obtain ⟨v0, v4⟩ := ev_m4 hm' (hb m' (by omega))
  rw [hB m' (by omega) (by omega)]
  exact amc_c (fun i hi => hB _ (by omega) (by omega))
/-- the model has given one map its first values again -/
theorem amn_m {A B B' : Nat → Int64} {d : Int} {m : Nat} (h0 : 0 ≤ d) (h4 : d < 4) (hm : m ∈ amps) (h : ∀ j : Nat, j < 156 → j = 1 ∨ (A j).toInt = amnd B d 8 j) (hb : ∀ j : Nat, j < 156 → evk j (B j).toInt = true) (hc : ¬ amcode B m (B m).toInt.toNat = 0) (hB : ∀ j : Nat, j < 156 → ¬ (m ≤ j ∧ j < m + 5) → B' j = B j) (hF : ∀ j : Nat, m ≤ j → j < m + 5 → (B' j).toInt = afst d j) : ∀ j : Nat, j < 156 → j = 1 ∨ (A j).toInt = amnd B' d 8 j := by
  have c0 := amf_0 h0 h4 hm hF
  intro j hj
  have e : amnd B' d 8 j = amnd B d 8 j := by
    unfold amnd
    cases hf : (amps.take 8).find? (fun m => decide (m ≤ j) && decide (j < m + 5)) with
    | none =>
      have hn := List.find?_eq_none.mp hf m hm
      simp only [Bool.and_eq_true, decide_eq_true_eq] at hn
      show (B' j).toInt = (B j).toInt
      rw [hB j hj hn]
    | some m' =>
      have hp := List.find?_some hf
      have hm' : m' ∈ amps := List.mem_of_find?_eq_some hf
      simp only [Bool.and_eq_true, decide_eq_true_eq] at hp
      show (if amcode B' m' (B' m').toInt.toNat = 0 then (B' j).toInt else afst d j) = (if amcode B m' (B m').toInt.toNat = 0 then (B j).toInt else afst d j)
      by_cases hn : m' = m
      · rw [hn, if_pos c0, if_neg hc]
        exact hF j (by omega) (by omega)
      · rw [amo_c hm hm' hn hb hB]
        have dj := amp_x hm' hm hn
        rw [hB j hj (by omega)]
  rw [e]
  exact h j hj
theorem ampm_t {K m : Nat} (hm : ampm[K]? = some m) {P : Nat → Prop} (h : ∀ x ∈ ampm.take K, P x) (hp : P m) : ∀ x ∈ ampm.take (K + 1), P x := by
  rw [List.take_add_one, hm]
  intro x hx
  rcases List.mem_append.mp hx with hx | hx
  · exact h x hx
  · rw [List.mem_singleton.mp hx]; exact hp
theorem ampm_i : ampm.all (fun m => decide (m ∈ amps)) = true := by decide +kernel
theorem amps_i : amps.all (fun m => decide (m ∈ ampm.take 8)) = true := by decide +kernel
/-- all maps are good: the two rows are one, and all is as it must be -/
theorem amn_8 {A B : Nat → Int64} {d : Int} (h : ∀ j : Nat, j < 156 → j = 1 ∨ (A j).toInt = amnd B d 8 j) (hg : ∀ m ∈ ampm.take 8, amcode B m (B m).toInt.toNat = 0) : ∀ j : Nat, j < 156 → j = 1 ∨ A j = B j := fun j hj => by
  refine (h j hj).imp_right (fun q => ?_)
  have e : amnd B d 8 j = (B j).toInt := by
    unfold amnd
    cases hf : (amps.take 8).find? (fun m => decide (m ≤ j) && decide (j < m + 5)) with
    | none => rfl
    | some m =>
      have hm : m ∈ amps := List.mem_of_find?_eq_some hf
      show (if amcode B m (B m).toInt.toNat = 0 then (B j).toInt else afst d j) = (B j).toInt
      rw [if_pos (hg m (of_decide_eq_true (List.all_eq_true.mp amps_i m hm)))]
  rw [e] at q
  exact Int64.toInt_inj.mp q
theorem eva_8 {B : Nat → Int64} (hb : ∀ j : Nat, j < 156 → evk j (B j).toInt = true) (hg : ∀ m ∈ ampm.take 8, amcode B m (B m).toInt.toNat = 0) : evall B = true := by
  unfold evall
  rw [Bool.and_eq_true, List.all_eq_true, List.all_eq_true]
  refine ⟨fun k hk => hb k (List.mem_range.mp hk), fun m hm => ?_⟩
  obtain ⟨nz, su⟩ := am_no (hg m (of_decide_eq_true (List.all_eq_true.mp amps_i m hm)))
  unfold evm
  rw [Bool.and_eq_true, List.all_eq_true]
  refine ⟨fun i hi => ?_, decide_eq_true su⟩
  have := nz i (List.mem_range.mp hi)
  simpa using this
theorem amv_50 : (List.range 4).all (fun d => (List.range 5).all (fun i => decide (afst (d : Nat) (50 + i) = ([1, 1614807056, 0, 0, 0] : List Int).getD i 0))) = true := by decide +kernel
theorem amw_50 {d : Int} (h0 : 0 ≤ d) (h4 : d < 4) {i : Nat} (hi : i < 5) : afst d (50 + i) = ([1, 1614807056, 0, 0, 0] : List Int).getD i 0 := by
  have h := List.all_eq_true.mp (List.all_eq_true.mp amv_50 d.toNat (List.mem_range.mpr (by omega))) i (List.mem_range.mpr hi)
  rw [show ((d.toNat : Nat) : Int) = d by omega] at h
  exact of_decide_eq_true h
theorem amv_55 : (List.range 4).all (fun d => (List.range 5).all (fun i => decide (afst (d : Nat) (55 + i) = ([0, 0, 0, 0, 0] : List Int).getD i 0))) = true := by decide +kernel
theorem amw_55 {d : Int} (h0 : 0 ≤ d) (h4 : d < 4) {i : Nat} (hi : i < 5) : afst d (55 + i) = ([0, 0, 0, 0, 0] : List Int).getD i 0 := by
  have h := List.all_eq_true.mp (List.all_eq_true.mp amv_55 d.toNat (List.mem_range.mpr (by omega))) i (List.mem_range.mpr hi)
  rw [show ((d.toNat : Nat) : Int) = d by omega] at h
  exact of_decide_eq_true h
theorem amv_60 : (List.range 4).all (fun d => (List.range 5).all (fun i => decide (afst (d : Nat) (60 + i) = ([0, 0, 0, 0, 0] : List Int).getD i 0))) = true := by decide +kernel
theorem amw_60 {d : Int} (h0 : 0 ≤ d) (h4 : d < 4) {i : Nat} (hi : i < 5) : afst d (60 + i) = ([0, 0, 0, 0, 0] : List Int).getD i 0 := by
  have h := List.all_eq_true.mp (List.all_eq_true.mp amv_60 d.toNat (List.mem_range.mpr (by omega))) i (List.mem_range.mpr hi)
  rw [show ((d.toNat : Nat) : Int) = d by omega] at h
  exact of_decide_eq_true h
theorem amv_65 : (List.range 4).all (fun d => (List.range 5).all (fun i => decide (afst (d : Nat) (65 + i) = ([0, 0, 0, 0, 0] : List Int).getD i 0))) = true := by decide +kernel
theorem amw_65 {d : Int} (h0 : 0 ≤ d) (h4 : d < 4) {i : Nat} (hi : i < 5) : afst d (65 + i) = ([0, 0, 0, 0, 0] : List Int).getD i 0 := by
  have h := List.all_eq_true.mp (List.all_eq_true.mp amv_65 d.toNat (List.mem_range.mpr (by omega))) i (List.mem_range.mpr hi)
  rw [show ((d.toNat : Nat) : Int) = d by omega] at h
  exact of_decide_eq_true h
theorem amv_90 : (List.range 4).all (fun d => (List.range 5).all (fun i => decide (afst (d : Nat) (90 + i) = ([1, 1614872592, 0, 0, 0] : List Int).getD i 0))) = true := by decide +kernel
theorem amw_90 {d : Int} (h0 : 0 ≤ d) (h4 : d < 4) {i : Nat} (hi : i < 5) : afst d (90 + i) = ([1, 1614872592, 0, 0, 0] : List Int).getD i 0 := by
  have h := List.all_eq_true.mp (List.all_eq_true.mp amv_90 d.toNat (List.mem_range.mpr (by omega))) i (List.mem_range.mpr hi)
  rw [show ((d.toNat : Nat) : Int) = d by omega] at h
  exact of_decide_eq_true h
theorem amv_95 : (List.range 4).all (fun d => (List.range 5).all (fun i => decide (afst (d : Nat) (95 + i) = ([0, 0, 0, 0, 0] : List Int).getD i 0))) = true := by decide +kernel
theorem amw_95 {d : Int} (h0 : 0 ≤ d) (h4 : d < 4) {i : Nat} (hi : i < 5) : afst d (95 + i) = ([0, 0, 0, 0, 0] : List Int).getD i 0 := by
  have h := List.all_eq_true.mp (List.all_eq_true.mp amv_95 d.toNat (List.mem_range.mpr (by omega))) i (List.mem_range.mpr hi)
  rw [show ((d.toNat : Nat) : Int) = d by omega] at h
  exact of_decide_eq_true h
theorem amv_100 : (List.range 4).all (fun d => (List.range 5).all (fun i => decide (afst (d : Nat) (100 + i) = ([0, 0, 0, 0, 0] : List Int).getD i 0))) = true := by decide +kernel
theorem amw_100 {d : Int} (h0 : 0 ≤ d) (h4 : d < 4) {i : Nat} (hi : i < 5) : afst d (100 + i) = ([0, 0, 0, 0, 0] : List Int).getD i 0 := by
  have h := List.all_eq_true.mp (List.all_eq_true.mp amv_100 d.toNat (List.mem_range.mpr (by omega))) i (List.mem_range.mpr hi)
  rw [show ((d.toNat : Nat) : Int) = d by omega] at h
  exact of_decide_eq_true h
theorem amv_105 : (List.range 4).all (fun d => (List.range 5).all (fun i => decide (afst (d : Nat) (105 + i) = ([0, 0, 0, 0, 0] : List Int).getD i 0))) = true := by decide +kernel
theorem amw_105 {d : Int} (h0 : 0 ≤ d) (h4 : d < 4) {i : Nat} (hi : i < 5) : afst d (105 + i) = ([0, 0, 0, 0, 0] : List Int).getD i 0 := by
  have h := List.all_eq_true.mp (List.all_eq_true.mp amv_105 d.toNat (List.mem_range.mpr (by omega))) i (List.mem_range.mpr hi)
  rw [show ((d.toNat : Nat) : Int) = d by omega] at h
  exact of_decide_eq_true h
noncomputable def zf98zzzb_0 : sQ × Bool := ((6, .arg 1633, .arg 1697), true)
noncomputable def zf98zzzb_1 : sQ × Bool := ((6, .arg 1665, .long 0), true)
noncomputable def zf98zzzb_2 : sQ × Bool := ((6, .arg 1729, .long 0), true)
noncomputable def zf98zzzb_3 : sQ × Bool := ((6, .arg 2081, .long 0), true)
noncomputable def zf98zzzb_4 : sQ × Bool := ((6, .arg 2113, .long 0), true)
noncomputable def zf98zzzb_5 : sQ × Bool := ((0, .arg 21728, .int 0), true)
noncomputable def zf98zzzb_6 : sQ × Bool := ((0, .arg 1298, .arg 1554), true)
noncomputable def zf98zzzb_7 : sQ × Bool := ((0, .arg 1330, .arg 1586), true)
noncomputable def zf98zzzb_8 : sQ × Bool := ((2, .int 24, .arg 1298), false)
noncomputable def zf98zzzb_9 : sQ × Bool := ((154, .add (.elem (.arg 64385) (.int 0)) (.arg 1308), .int 156), true)
noncomputable def q_mc0T : sCut := ((fr 0 93 67 [(0, tr 75)] [], [fr 0 60 30 [(0, tr 39), (1, .int 1)] [], fBot], 12), (fr 0 297 64 [(0, tr 219), (1, .arg 1308)] [], [fr 0 300 36 [(0, tr 219), (1, .arg 1308)] [], fBot], 12), [((0, .arg 2816, .int 1), true), zf98zzzb_0, zf98zzzb_1, zf98zzzb_2, zf98zzzb_3, zf98zzzb_4, ((0, .arg 1698, .int 0), true), ((0, .arg 1300, .int 0), true), ((0, .arg 1302, .int 0), true), ((0, .arg 1430, .int 0), true), ((0, .arg 1318, .int 0), true), ((0, .arg 3232, .int 0), true), ((0, .arg 2050, .int 0), true), ((0, .arg 3264, .int 0), true), ((0, .arg 3296, .int 0), true), ((0, .arg 3328, .int 0), true), ((0, .arg 3168, .int 0), true), ((0, .arg 1858, .int 0), true), ((0, .arg 1890, .int 0), true), ((0, .arg 1922, .int 0), true), ((0, .arg 3008, .int 0), true), ((0, .arg 1954, .int 0), true), ((0, .arg 1986, .int 0), true), ((0, .arg 2018, .int 0), true), zf98zzzb_5, ((0, .arg 1702, .int 0), true), ((0, .arg 3360, .int 0), true), ((0, .arg 1350, .int 0), true), ((0, .arg 1826, .int 0), true), zf98zzzb_6, zf98zzzb_7, zf98zzzb_8, zf98zzzb_9, ((0, .arg 1730, .int 0), true)], i_bz)
noncomputable def q_mm0T : sCut := ((fr 0 95 34 [(0, tr 75), (1, .int 90), (2, .int 3)] [], [fr 0 93 73 [(0, tr 75)] [], fr 0 60 30 [(0, tr 39), (1, .int 1)] [], fBot], 11), (fr 0 297 64 [(0, tr 219), (1, .arg 1308)] [], [fr 0 300 36 [(0, tr 219), (1, .arg 1308)] [], fBot], 12), [((0, .arg 2816, .int 1), true), zf98zzzb_0, zf98zzzb_1, zf98zzzb_2, zf98zzzb_3, zf98zzzb_4, ((0, .arg 1698, .int 0), true), ((0, .arg 1300, .int 0), true), ((0, .arg 1302, .int 0), true), ((0, .arg 1430, .int 0), true), ((0, .arg 1318, .int 0), true), ((0, .arg 3232, .int 0), true), ((0, .arg 2050, .int 0), true), ((0, .arg 3264, .int 0), true), ((0, .arg 3296, .int 0), true), ((0, .arg 3328, .int 0), true), ((0, .arg 3168, .int 0), true), ((0, .arg 1858, .int 0), true), ((0, .arg 1890, .int 0), true), ((0, .arg 1922, .int 0), true), ((0, .arg 3008, .int 0), true), ((0, .arg 1954, .int 0), true), ((0, .arg 1986, .int 0), true), ((0, .arg 2018, .int 0), true), zf98zzzb_5, ((0, .arg 1702, .int 0), true), ((0, .arg 3360, .int 0), true), ((0, .arg 1350, .int 0), true), ((0, .arg 1826, .int 0), true), zf98zzzb_6, zf98zzzb_7, zf98zzzb_8, zf98zzzb_9, ((0, .arg 1730, .int 0), true)], i_bz)
noncomputable def q_mc1T : sCut := ((fr 0 95 34 [(0, tr 75), (1, .int 50), (2, .int 0)] [], [fr 0 93 70 [(0, tr 75)] [], fr 0 60 30 [(0, tr 39), (1, .int 1)] [], fBot], 11), (fr 0 297 64 [(0, tr 219), (1, .arg 1308)] [], [fr 0 300 36 [(0, tr 219), (1, .arg 1308)] [], fBot], 12), [((0, .arg 2816, .int 1), true), zf98zzzb_0, zf98zzzb_1, zf98zzzb_2, zf98zzzb_3, zf98zzzb_4, ((0, .arg 1698, .int 0), true), ((0, .arg 1300, .int 0), true), ((0, .arg 1302, .int 0), true), ((0, .arg 1430, .int 0), true), ((0, .arg 1318, .int 0), true), ((0, .arg 3232, .int 0), true), ((0, .arg 2050, .int 0), true), ((0, .arg 3264, .int 0), true), ((0, .arg 3296, .int 0), true), ((0, .arg 3328, .int 0), true), ((0, .arg 3168, .int 0), true), ((0, .arg 1858, .int 0), true), ((0, .arg 1890, .int 0), true), ((0, .arg 1922, .int 0), true), ((0, .arg 3008, .int 0), true), ((0, .arg 1954, .int 0), true), ((0, .arg 1986, .int 0), true), ((0, .arg 2018, .int 0), true), zf98zzzb_5, ((0, .arg 1702, .int 0), true), ((0, .arg 3360, .int 0), true), ((0, .arg 1350, .int 0), true), ((0, .arg 1826, .int 0), true), zf98zzzb_6, zf98zzzb_7, zf98zzzb_8, zf98zzzb_9, ((0, .arg 1730, .int 0), true)], i_bz)
noncomputable def q_mm1T : sCut := ((fr 0 95 34 [(0, tr 75), (1, .int 90), (2, .int 3)] [], [fr 0 93 73 [(0, tr 75)] [], fr 0 60 30 [(0, tr 39), (1, .int 1)] [], fBot], 11), (fr 0 297 75 [(0, tr 219), (1, .arg 1308), (5, .int 0)] [], [fr 0 300 36 [(0, tr 219), (1, .arg 1308)] [], fBot], 12), [((0, .arg 2816, .int 1), true), zf98zzzb_0, zf98zzzb_1, zf98zzzb_2, zf98zzzb_3, zf98zzzb_4, ((0, .arg 1698, .int 0), true), ((0, .arg 1300, .int 0), true), ((0, .arg 1302, .int 0), true), ((0, .arg 1430, .int 0), true), ((0, .arg 1318, .int 0), true), ((0, .arg 3232, .int 0), true), ((0, .arg 2050, .int 0), true), ((0, .arg 3264, .int 0), true), ((0, .arg 3296, .int 0), true), ((0, .arg 3328, .int 0), true), ((0, .arg 3168, .int 0), true), ((0, .arg 1858, .int 0), true), ((0, .arg 1890, .int 0), true), ((0, .arg 1922, .int 0), true), ((0, .arg 3008, .int 0), true), ((0, .arg 1954, .int 0), true), ((0, .arg 1986, .int 0), true), ((0, .arg 2018, .int 0), true), zf98zzzb_5, ((0, .arg 1702, .int 0), true), ((0, .arg 3360, .int 0), true), ((0, .arg 1350, .int 0), true), ((0, .arg 1826, .int 0), true), zf98zzzb_6, zf98zzzb_7, zf98zzzb_8, zf98zzzb_9, ((0, .arg 1730, .int 0), true)], i_bz)
noncomputable def q_mc2T : sCut := ((fr 0 95 34 [(0, tr 75), (1, .int 50), (2, .int 1)] [], [fr 0 93 70 [(0, tr 75)] [], fr 0 60 30 [(0, tr 39), (1, .int 1)] [], fBot], 11), (fr 0 297 64 [(0, tr 219), (1, .arg 1308)] [], [fr 0 300 36 [(0, tr 219), (1, .arg 1308)] [], fBot], 12), [((0, .arg 2816, .int 1), true), zf98zzzb_0, zf98zzzb_1, zf98zzzb_2, zf98zzzb_3, zf98zzzb_4, ((0, .arg 1698, .int 0), true), ((0, .arg 1300, .int 0), true), ((0, .arg 1302, .int 0), true), ((0, .arg 1430, .int 0), true), ((0, .arg 1318, .int 0), true), ((0, .arg 3232, .int 0), true), ((0, .arg 2050, .int 0), true), ((0, .arg 3264, .int 0), true), ((0, .arg 3296, .int 0), true), ((0, .arg 3328, .int 0), true), ((0, .arg 3168, .int 0), true), ((0, .arg 1858, .int 0), true), ((0, .arg 1890, .int 0), true), ((0, .arg 1922, .int 0), true), ((0, .arg 3008, .int 0), true), ((0, .arg 1954, .int 0), true), ((0, .arg 1986, .int 0), true), ((0, .arg 2018, .int 0), true), zf98zzzb_5, ((0, .arg 1702, .int 0), true), ((0, .arg 3360, .int 0), true), ((0, .arg 1350, .int 0), true), ((0, .arg 1826, .int 0), true), zf98zzzb_6, zf98zzzb_7, zf98zzzb_8, zf98zzzb_9, ((0, .arg 1730, .int 0), true)], i_bz)
noncomputable def q_mm2T : sCut := ((fr 0 95 34 [(0, tr 75), (1, .int 90), (2, .int 3)] [], [fr 0 93 73 [(0, tr 75)] [], fr 0 60 30 [(0, tr 39), (1, .int 1)] [], fBot], 11), (fr 0 297 81 [(0, tr 219), (1, .arg 1308), (5, .int 0)] [], [fr 0 300 36 [(0, tr 219), (1, .arg 1308)] [], fBot], 12), [((0, .arg 2816, .int 1), true), zf98zzzb_0, zf98zzzb_1, zf98zzzb_2, zf98zzzb_3, zf98zzzb_4, ((0, .arg 1698, .int 0), true), ((0, .arg 1300, .int 0), true), ((0, .arg 1302, .int 0), true), ((0, .arg 1430, .int 0), true), ((0, .arg 1318, .int 0), true), ((0, .arg 3232, .int 0), true), ((0, .arg 2050, .int 0), true), ((0, .arg 3264, .int 0), true), ((0, .arg 3296, .int 0), true), ((0, .arg 3328, .int 0), true), ((0, .arg 3168, .int 0), true), ((0, .arg 1858, .int 0), true), ((0, .arg 1890, .int 0), true), ((0, .arg 1922, .int 0), true), ((0, .arg 3008, .int 0), true), ((0, .arg 1954, .int 0), true), ((0, .arg 1986, .int 0), true), ((0, .arg 2018, .int 0), true), zf98zzzb_5, ((0, .arg 1702, .int 0), true), ((0, .arg 3360, .int 0), true), ((0, .arg 1350, .int 0), true), ((0, .arg 1826, .int 0), true), zf98zzzb_6, zf98zzzb_7, zf98zzzb_8, zf98zzzb_9, ((0, .arg 1730, .int 0), true)], i_bz)
noncomputable def q_mc3T : sCut := ((fr 0 95 34 [(0, tr 75), (1, .int 50), (2, .int 2)] [], [fr 0 93 70 [(0, tr 75)] [], fr 0 60 30 [(0, tr 39), (1, .int 1)] [], fBot], 11), (fr 0 297 64 [(0, tr 219), (1, .arg 1308)] [], [fr 0 300 36 [(0, tr 219), (1, .arg 1308)] [], fBot], 12), [((0, .arg 2816, .int 1), true), zf98zzzb_0, zf98zzzb_1, zf98zzzb_2, zf98zzzb_3, zf98zzzb_4, ((0, .arg 1698, .int 0), true), ((0, .arg 1300, .int 0), true), ((0, .arg 1302, .int 0), true), ((0, .arg 1430, .int 0), true), ((0, .arg 1318, .int 0), true), ((0, .arg 3232, .int 0), true), ((0, .arg 2050, .int 0), true), ((0, .arg 3264, .int 0), true), ((0, .arg 3296, .int 0), true), ((0, .arg 3328, .int 0), true), ((0, .arg 3168, .int 0), true), ((0, .arg 1858, .int 0), true), ((0, .arg 1890, .int 0), true), ((0, .arg 1922, .int 0), true), ((0, .arg 3008, .int 0), true), ((0, .arg 1954, .int 0), true), ((0, .arg 1986, .int 0), true), ((0, .arg 2018, .int 0), true), zf98zzzb_5, ((0, .arg 1702, .int 0), true), ((0, .arg 3360, .int 0), true), ((0, .arg 1350, .int 0), true), ((0, .arg 1826, .int 0), true), zf98zzzb_6, zf98zzzb_7, zf98zzzb_8, zf98zzzb_9, ((0, .arg 1730, .int 0), true)], i_bz)
noncomputable def q_mm3T : sCut := ((fr 0 95 34 [(0, tr 75), (1, .int 90), (2, .int 3)] [], [fr 0 93 73 [(0, tr 75)] [], fr 0 60 30 [(0, tr 39), (1, .int 1)] [], fBot], 11), (fr 0 297 75 [(0, tr 219), (1, .arg 1308), (5, .int 1)] [], [fr 0 300 36 [(0, tr 219), (1, .arg 1308)] [], fBot], 12), [((0, .arg 2816, .int 1), true), zf98zzzb_0, zf98zzzb_1, zf98zzzb_2, zf98zzzb_3, zf98zzzb_4, ((0, .arg 1698, .int 0), true), ((0, .arg 1300, .int 0), true), ((0, .arg 1302, .int 0), true), ((0, .arg 1430, .int 0), true), ((0, .arg 1318, .int 0), true), ((0, .arg 3232, .int 0), true), ((0, .arg 2050, .int 0), true), ((0, .arg 3264, .int 0), true), ((0, .arg 3296, .int 0), true), ((0, .arg 3328, .int 0), true), ((0, .arg 3168, .int 0), true), ((0, .arg 1858, .int 0), true), ((0, .arg 1890, .int 0), true), ((0, .arg 1922, .int 0), true), ((0, .arg 3008, .int 0), true), ((0, .arg 1954, .int 0), true), ((0, .arg 1986, .int 0), true), ((0, .arg 2018, .int 0), true), zf98zzzb_5, ((0, .arg 1702, .int 0), true), ((0, .arg 3360, .int 0), true), ((0, .arg 1350, .int 0), true), ((0, .arg 1826, .int 0), true), zf98zzzb_6, zf98zzzb_7, zf98zzzb_8, zf98zzzb_9, ((0, .arg 1730, .int 0), true)], i_bz)
noncomputable def q_mc4T : sCut := ((fr 0 95 34 [(0, tr 75), (1, .int 50), (2, .int 3)] [], [fr 0 93 70 [(0, tr 75)] [], fr 0 60 30 [(0, tr 39), (1, .int 1)] [], fBot], 11), (fr 0 297 64 [(0, tr 219), (1, .arg 1308)] [], [fr 0 300 36 [(0, tr 219), (1, .arg 1308)] [], fBot], 12), [((0, .arg 2816, .int 1), true), zf98zzzb_0, zf98zzzb_1, zf98zzzb_2, zf98zzzb_3, zf98zzzb_4, ((0, .arg 1698, .int 0), true), ((0, .arg 1300, .int 0), true), ((0, .arg 1302, .int 0), true), ((0, .arg 1430, .int 0), true), ((0, .arg 1318, .int 0), true), ((0, .arg 3232, .int 0), true), ((0, .arg 2050, .int 0), true), ((0, .arg 3264, .int 0), true), ((0, .arg 3296, .int 0), true), ((0, .arg 3328, .int 0), true), ((0, .arg 3168, .int 0), true), ((0, .arg 1858, .int 0), true), ((0, .arg 1890, .int 0), true), ((0, .arg 1922, .int 0), true), ((0, .arg 3008, .int 0), true), ((0, .arg 1954, .int 0), true), ((0, .arg 1986, .int 0), true), ((0, .arg 2018, .int 0), true), zf98zzzb_5, ((0, .arg 1702, .int 0), true), ((0, .arg 3360, .int 0), true), ((0, .arg 1350, .int 0), true), ((0, .arg 1826, .int 0), true), zf98zzzb_6, zf98zzzb_7, zf98zzzb_8, zf98zzzb_9, ((0, .arg 1730, .int 0), true)], i_bz)
noncomputable def q_mm4T : sCut := ((fr 0 95 34 [(0, tr 75), (1, .int 90), (2, .int 3)] [], [fr 0 93 73 [(0, tr 75)] [], fr 0 60 30 [(0, tr 39), (1, .int 1)] [], fBot], 11), (fr 0 297 81 [(0, tr 219), (1, .arg 1308), (5, .int 1)] [], [fr 0 300 36 [(0, tr 219), (1, .arg 1308)] [], fBot], 12), [((0, .arg 2816, .int 1), true), zf98zzzb_0, zf98zzzb_1, zf98zzzb_2, zf98zzzb_3, zf98zzzb_4, ((0, .arg 1698, .int 0), true), ((0, .arg 1300, .int 0), true), ((0, .arg 1302, .int 0), true), ((0, .arg 1430, .int 0), true), ((0, .arg 1318, .int 0), true), ((0, .arg 3232, .int 0), true), ((0, .arg 2050, .int 0), true), ((0, .arg 3264, .int 0), true), ((0, .arg 3296, .int 0), true), ((0, .arg 3328, .int 0), true), ((0, .arg 3168, .int 0), true), ((0, .arg 1858, .int 0), true), ((0, .arg 1890, .int 0), true), ((0, .arg 1922, .int 0), true), ((0, .arg 3008, .int 0), true), ((0, .arg 1954, .int 0), true), ((0, .arg 1986, .int 0), true), ((0, .arg 2018, .int 0), true), zf98zzzb_5, ((0, .arg 1702, .int 0), true), ((0, .arg 3360, .int 0), true), ((0, .arg 1350, .int 0), true), ((0, .arg 1826, .int 0), true), zf98zzzb_6, zf98zzzb_7, zf98zzzb_8, zf98zzzb_9, ((0, .arg 1730, .int 0), true)], i_bz)
noncomputable def q_mc5T : sCut := ((fr 0 95 34 [(0, tr 75), (1, .int 90), (2, .int 0)] [], [fr 0 93 73 [(0, tr 75)] [], fr 0 60 30 [(0, tr 39), (1, .int 1)] [], fBot], 11), (fr 0 297 64 [(0, tr 219), (1, .arg 1308)] [], [fr 0 300 36 [(0, tr 219), (1, .arg 1308)] [], fBot], 12), [((0, .arg 2816, .int 1), true), zf98zzzb_0, zf98zzzb_1, zf98zzzb_2, zf98zzzb_3, zf98zzzb_4, ((0, .arg 1698, .int 0), true), ((0, .arg 1300, .int 0), true), ((0, .arg 1302, .int 0), true), ((0, .arg 1430, .int 0), true), ((0, .arg 1318, .int 0), true), ((0, .arg 3232, .int 0), true), ((0, .arg 2050, .int 0), true), ((0, .arg 3264, .int 0), true), ((0, .arg 3296, .int 0), true), ((0, .arg 3328, .int 0), true), ((0, .arg 3168, .int 0), true), ((0, .arg 1858, .int 0), true), ((0, .arg 1890, .int 0), true), ((0, .arg 1922, .int 0), true), ((0, .arg 3008, .int 0), true), ((0, .arg 1954, .int 0), true), ((0, .arg 1986, .int 0), true), ((0, .arg 2018, .int 0), true), zf98zzzb_5, ((0, .arg 1702, .int 0), true), ((0, .arg 3360, .int 0), true), ((0, .arg 1350, .int 0), true), ((0, .arg 1826, .int 0), true), zf98zzzb_6, zf98zzzb_7, zf98zzzb_8, zf98zzzb_9, ((0, .arg 1730, .int 0), true)], i_bz)
noncomputable def q_mm5T : sCut := ((fr 0 95 34 [(0, tr 75), (1, .int 90), (2, .int 3)] [], [fr 0 93 73 [(0, tr 75)] [], fr 0 60 30 [(0, tr 39), (1, .int 1)] [], fBot], 11), (fr 0 297 75 [(0, tr 219), (1, .arg 1308), (5, .int 2)] [], [fr 0 300 36 [(0, tr 219), (1, .arg 1308)] [], fBot], 12), [((0, .arg 2816, .int 1), true), zf98zzzb_0, zf98zzzb_1, zf98zzzb_2, zf98zzzb_3, zf98zzzb_4, ((0, .arg 1698, .int 0), true), ((0, .arg 1300, .int 0), true), ((0, .arg 1302, .int 0), true), ((0, .arg 1430, .int 0), true), ((0, .arg 1318, .int 0), true), ((0, .arg 3232, .int 0), true), ((0, .arg 2050, .int 0), true), ((0, .arg 3264, .int 0), true), ((0, .arg 3296, .int 0), true), ((0, .arg 3328, .int 0), true), ((0, .arg 3168, .int 0), true), ((0, .arg 1858, .int 0), true), ((0, .arg 1890, .int 0), true), ((0, .arg 1922, .int 0), true), ((0, .arg 3008, .int 0), true), ((0, .arg 1954, .int 0), true), ((0, .arg 1986, .int 0), true), ((0, .arg 2018, .int 0), true), zf98zzzb_5, ((0, .arg 1702, .int 0), true), ((0, .arg 3360, .int 0), true), ((0, .arg 1350, .int 0), true), ((0, .arg 1826, .int 0), true), zf98zzzb_6, zf98zzzb_7, zf98zzzb_8, zf98zzzb_9, ((0, .arg 1730, .int 0), true)], i_bz)
noncomputable def q_mc6T : sCut := ((fr 0 95 34 [(0, tr 75), (1, .int 90), (2, .int 1)] [], [fr 0 93 73 [(0, tr 75)] [], fr 0 60 30 [(0, tr 39), (1, .int 1)] [], fBot], 11), (fr 0 297 64 [(0, tr 219), (1, .arg 1308)] [], [fr 0 300 36 [(0, tr 219), (1, .arg 1308)] [], fBot], 12), [((0, .arg 2816, .int 1), true), zf98zzzb_0, zf98zzzb_1, zf98zzzb_2, zf98zzzb_3, zf98zzzb_4, ((0, .arg 1698, .int 0), true), ((0, .arg 1300, .int 0), true), ((0, .arg 1302, .int 0), true), ((0, .arg 1430, .int 0), true), ((0, .arg 1318, .int 0), true), ((0, .arg 3232, .int 0), true), ((0, .arg 2050, .int 0), true), ((0, .arg 3264, .int 0), true), ((0, .arg 3296, .int 0), true), ((0, .arg 3328, .int 0), true), ((0, .arg 3168, .int 0), true), ((0, .arg 1858, .int 0), true), ((0, .arg 1890, .int 0), true), ((0, .arg 1922, .int 0), true), ((0, .arg 3008, .int 0), true), ((0, .arg 1954, .int 0), true), ((0, .arg 1986, .int 0), true), ((0, .arg 2018, .int 0), true), zf98zzzb_5, ((0, .arg 1702, .int 0), true), ((0, .arg 3360, .int 0), true), ((0, .arg 1350, .int 0), true), ((0, .arg 1826, .int 0), true), zf98zzzb_6, zf98zzzb_7, zf98zzzb_8, zf98zzzb_9, ((0, .arg 1730, .int 0), true)], i_bz)
noncomputable def q_mm6T : sCut := ((fr 0 95 34 [(0, tr 75), (1, .int 90), (2, .int 3)] [], [fr 0 93 73 [(0, tr 75)] [], fr 0 60 30 [(0, tr 39), (1, .int 1)] [], fBot], 11), (fr 0 297 81 [(0, tr 219), (1, .arg 1308), (5, .int 2)] [], [fr 0 300 36 [(0, tr 219), (1, .arg 1308)] [], fBot], 12), [((0, .arg 2816, .int 1), true), zf98zzzb_0, zf98zzzb_1, zf98zzzb_2, zf98zzzb_3, zf98zzzb_4, ((0, .arg 1698, .int 0), true), ((0, .arg 1300, .int 0), true), ((0, .arg 1302, .int 0), true), ((0, .arg 1430, .int 0), true), ((0, .arg 1318, .int 0), true), ((0, .arg 3232, .int 0), true), ((0, .arg 2050, .int 0), true), ((0, .arg 3264, .int 0), true), ((0, .arg 3296, .int 0), true), ((0, .arg 3328, .int 0), true), ((0, .arg 3168, .int 0), true), ((0, .arg 1858, .int 0), true), ((0, .arg 1890, .int 0), true), ((0, .arg 1922, .int 0), true), ((0, .arg 3008, .int 0), true), ((0, .arg 1954, .int 0), true), ((0, .arg 1986, .int 0), true), ((0, .arg 2018, .int 0), true), zf98zzzb_5, ((0, .arg 1702, .int 0), true), ((0, .arg 3360, .int 0), true), ((0, .arg 1350, .int 0), true), ((0, .arg 1826, .int 0), true), zf98zzzb_6, zf98zzzb_7, zf98zzzb_8, zf98zzzb_9, ((0, .arg 1730, .int 0), true)], i_bz)
noncomputable def q_mc7T : sCut := ((fr 0 95 34 [(0, tr 75), (1, .int 90), (2, .int 2)] [], [fr 0 93 73 [(0, tr 75)] [], fr 0 60 30 [(0, tr 39), (1, .int 1)] [], fBot], 11), (fr 0 297 64 [(0, tr 219), (1, .arg 1308)] [], [fr 0 300 36 [(0, tr 219), (1, .arg 1308)] [], fBot], 12), [((0, .arg 2816, .int 1), true), zf98zzzb_0, zf98zzzb_1, zf98zzzb_2, zf98zzzb_3, zf98zzzb_4, ((0, .arg 1698, .int 0), true), ((0, .arg 1300, .int 0), true), ((0, .arg 1302, .int 0), true), ((0, .arg 1430, .int 0), true), ((0, .arg 1318, .int 0), true), ((0, .arg 3232, .int 0), true), ((0, .arg 2050, .int 0), true), ((0, .arg 3264, .int 0), true), ((0, .arg 3296, .int 0), true), ((0, .arg 3328, .int 0), true), ((0, .arg 3168, .int 0), true), ((0, .arg 1858, .int 0), true), ((0, .arg 1890, .int 0), true), ((0, .arg 1922, .int 0), true), ((0, .arg 3008, .int 0), true), ((0, .arg 1954, .int 0), true), ((0, .arg 1986, .int 0), true), ((0, .arg 2018, .int 0), true), zf98zzzb_5, ((0, .arg 1702, .int 0), true), ((0, .arg 3360, .int 0), true), ((0, .arg 1350, .int 0), true), ((0, .arg 1826, .int 0), true), zf98zzzb_6, zf98zzzb_7, zf98zzzb_8, zf98zzzb_9, ((0, .arg 1730, .int 0), true)], i_bz)
noncomputable def q_mm7T : sCut := ((fr 0 95 34 [(0, tr 75), (1, .int 90), (2, .int 3)] [], [fr 0 93 73 [(0, tr 75)] [], fr 0 60 30 [(0, tr 39), (1, .int 1)] [], fBot], 11), (fr 0 297 75 [(0, tr 219), (1, .arg 1308), (5, .int 3)] [], [fr 0 300 36 [(0, tr 219), (1, .arg 1308)] [], fBot], 12), [((0, .arg 2816, .int 1), true), zf98zzzb_0, zf98zzzb_1, zf98zzzb_2, zf98zzzb_3, zf98zzzb_4, ((0, .arg 1698, .int 0), true), ((0, .arg 1300, .int 0), true), ((0, .arg 1302, .int 0), true), ((0, .arg 1430, .int 0), true), ((0, .arg 1318, .int 0), true), ((0, .arg 3232, .int 0), true), ((0, .arg 2050, .int 0), true), ((0, .arg 3264, .int 0), true), ((0, .arg 3296, .int 0), true), ((0, .arg 3328, .int 0), true), ((0, .arg 3168, .int 0), true), ((0, .arg 1858, .int 0), true), ((0, .arg 1890, .int 0), true), ((0, .arg 1922, .int 0), true), ((0, .arg 3008, .int 0), true), ((0, .arg 1954, .int 0), true), ((0, .arg 1986, .int 0), true), ((0, .arg 2018, .int 0), true), zf98zzzb_5, ((0, .arg 1702, .int 0), true), ((0, .arg 3360, .int 0), true), ((0, .arg 1350, .int 0), true), ((0, .arg 1826, .int 0), true), zf98zzzb_6, zf98zzzb_7, zf98zzzb_8, zf98zzzb_9, ((0, .arg 1730, .int 0), true)], i_bz)
noncomputable def q_mc8T : sCut := ((fr 0 95 34 [(0, tr 75), (1, .int 90), (2, .int 3)] [], [fr 0 93 73 [(0, tr 75)] [], fr 0 60 30 [(0, tr 39), (1, .int 1)] [], fBot], 11), (fr 0 297 64 [(0, tr 219), (1, .arg 1308)] [], [fr 0 300 36 [(0, tr 219), (1, .arg 1308)] [], fBot], 12), [((0, .arg 2816, .int 1), true), zf98zzzb_0, zf98zzzb_1, zf98zzzb_2, zf98zzzb_3, zf98zzzb_4, ((0, .arg 1698, .int 0), true), ((0, .arg 1300, .int 0), true), ((0, .arg 1302, .int 0), true), ((0, .arg 1430, .int 0), true), ((0, .arg 1318, .int 0), true), ((0, .arg 3232, .int 0), true), ((0, .arg 2050, .int 0), true), ((0, .arg 3264, .int 0), true), ((0, .arg 3296, .int 0), true), ((0, .arg 3328, .int 0), true), ((0, .arg 3168, .int 0), true), ((0, .arg 1858, .int 0), true), ((0, .arg 1890, .int 0), true), ((0, .arg 1922, .int 0), true), ((0, .arg 3008, .int 0), true), ((0, .arg 1954, .int 0), true), ((0, .arg 1986, .int 0), true), ((0, .arg 2018, .int 0), true), zf98zzzb_5, ((0, .arg 1702, .int 0), true), ((0, .arg 3360, .int 0), true), ((0, .arg 1350, .int 0), true), ((0, .arg 1826, .int 0), true), zf98zzzb_6, zf98zzzb_7, zf98zzzb_8, zf98zzzb_9, ((0, .arg 1730, .int 0), true)], i_bz)
noncomputable def q_mm8T : sCut := ((fr 0 95 34 [(0, tr 75), (1, .int 90), (2, .int 3)] [], [fr 0 93 73 [(0, tr 75)] [], fr 0 60 30 [(0, tr 39), (1, .int 1)] [], fBot], 11), (fr 0 297 81 [(0, tr 219), (1, .arg 1308), (5, .int 3)] [], [fr 0 300 36 [(0, tr 219), (1, .arg 1308)] [], fBot], 12), [((0, .arg 2816, .int 1), true), zf98zzzb_0, zf98zzzb_1, zf98zzzb_2, zf98zzzb_3, zf98zzzb_4, ((0, .arg 1698, .int 0), true), ((0, .arg 1300, .int 0), true), ((0, .arg 1302, .int 0), true), ((0, .arg 1430, .int 0), true), ((0, .arg 1318, .int 0), true), ((0, .arg 3232, .int 0), true), ((0, .arg 2050, .int 0), true), ((0, .arg 3264, .int 0), true), ((0, .arg 3296, .int 0), true), ((0, .arg 3328, .int 0), true), ((0, .arg 3168, .int 0), true), ((0, .arg 1858, .int 0), true), ((0, .arg 1890, .int 0), true), ((0, .arg 1922, .int 0), true), ((0, .arg 3008, .int 0), true), ((0, .arg 1954, .int 0), true), ((0, .arg 1986, .int 0), true), ((0, .arg 2018, .int 0), true), zf98zzzb_5, ((0, .arg 1702, .int 0), true), ((0, .arg 3360, .int 0), true), ((0, .arg 1350, .int 0), true), ((0, .arg 1826, .int 0), true), zf98zzzb_6, zf98zzzb_7, zf98zzzb_8, zf98zzzb_9, ((0, .arg 1730, .int 0), true)], i_bz)
noncomputable def zf98zzzb_10 : sQ × Bool := ((157, .add (.elem (.arg 64321) (.int 0)) (.add (.elem (.arg 64353) (.int 0)) (.arg 1308)), .int 8), true)
noncomputable def zf98zzzb_11 : sQ × Bool := ((158, .elem (.arg 64353) (.int 0), .int 8), true)
noncomputable def zf98zzzb_12 : sQ × Bool := ((155, .elem (.arg 64353) (.int 0), .int 0), true)
noncomputable def zf98zzzb_13 : sQ × Bool := ((6, .elem (.arg 64321) (.int 1), .long 0), true)
noncomputable def zf98zzzb_14 : sQ × Bool := ((6, .elem (.arg 64353) (.int 114), .long 0), true)
noncomputable def zf98zzzb_15 : sQ × Bool := ((6, .elem (.arg 64353) (.int 123), .long 0), true)
noncomputable def q_mm8 : sCut := ((fr 0 95 34 [(0, tr 75), (1, .int 90), (2, .int 3)] [], [fr 0 93 73 [(0, tr 75)] [], fr 0 60 30 [(0, tr 39), (1, .int 1)] [], fBot], 11), (fr 0 297 81 [(0, tr 219), (1, .arg 1308), (5, .int 3)] [], [fr 0 300 36 [(0, tr 219), (1, .arg 1308)] [], fBot], 12), [zf98zzzb_10, zf98zzzb_11, zf98zzzb_12, zf98zzzb_13, zf98zzzb_14, zf98zzzb_15, ((0, .arg 2816, .int 1), true), zf98zzzb_0, zf98zzzb_1, zf98zzzb_2, zf98zzzb_3, zf98zzzb_4, ((0, .arg 1698, .int 0), true), ((0, .arg 1300, .int 0), true), ((0, .arg 1302, .int 0), true), ((0, .arg 1430, .int 0), true), ((0, .arg 1318, .int 0), true), ((0, .arg 3232, .int 0), true), ((0, .arg 2050, .int 0), true), ((0, .arg 3264, .int 0), true), ((0, .arg 3296, .int 0), true), ((0, .arg 3328, .int 0), true), ((0, .arg 3168, .int 0), true), ((0, .arg 1858, .int 0), true), ((0, .arg 1890, .int 0), true), ((0, .arg 1922, .int 0), true), ((0, .arg 3008, .int 0), true), ((0, .arg 1954, .int 0), true), ((0, .arg 1986, .int 0), true), ((0, .arg 2018, .int 0), true), zf98zzzb_5, ((0, .arg 1702, .int 0), true), ((0, .arg 3360, .int 0), true), ((0, .arg 1350, .int 0), true), ((0, .arg 1826, .int 0), true), zf98zzzb_6, zf98zzzb_7, zf98zzzb_8, zf98zzzb_9, ((0, .arg 1730, .int 0), true)], i_bz)
noncomputable def q_mm8e : sCut := ((fr 0 95 34 [(0, tr 75), (1, .int 90), (2, .int 3)] [], [fr 0 93 73 [(0, tr 75)] [], fr 0 60 30 [(0, tr 39), (1, .int 1)] [], fBot], 11), (fr 0 297 81 [(0, tr 219), (1, .arg 1308), (5, .int 3)] [], [fr 0 300 36 [(0, tr 219), (1, .arg 1308)] [], fBot], 12), [((156, .add (.elem (.arg 64321) (.int 0)) (.elem (.arg 64353) (.int 0)), .int 0), true), ((101, .elem (.arg 64353) (.int 0), .int 0), true), zf98zzzb_10, zf98zzzb_11, zf98zzzb_12, zf98zzzb_13, zf98zzzb_14, zf98zzzb_15, ((0, .arg 2816, .int 1), true), zf98zzzb_0, zf98zzzb_1, zf98zzzb_2, zf98zzzb_3, zf98zzzb_4, ((0, .arg 1698, .int 0), true), ((0, .arg 1300, .int 0), true), ((0, .arg 1302, .int 0), true), ((0, .arg 1430, .int 0), true), ((0, .arg 1318, .int 0), true), ((0, .arg 3232, .int 0), true), ((0, .arg 2050, .int 0), true), ((0, .arg 3264, .int 0), true), ((0, .arg 3296, .int 0), true), ((0, .arg 3328, .int 0), true), ((0, .arg 3168, .int 0), true), ((0, .arg 1858, .int 0), true), ((0, .arg 1890, .int 0), true), ((0, .arg 1922, .int 0), true), ((0, .arg 3008, .int 0), true), ((0, .arg 1954, .int 0), true), ((0, .arg 1986, .int 0), true), ((0, .arg 2018, .int 0), true), zf98zzzb_5, ((0, .arg 1702, .int 0), true), ((0, .arg 3360, .int 0), true), ((0, .arg 1350, .int 0), true), ((0, .arg 1826, .int 0), true), zf98zzzb_6, zf98zzzb_7, zf98zzzb_8, zf98zzzb_9, ((0, .arg 1730, .int 0), true)], i_bz)
theorem k_mm8e : cbody kR [] (cpl1 zWB c_bn1 [q_be1]) (cpl2 zWB c_bn1 [q_be1]) (cleaf kR zWB c_bn1 [q_be1]) 200 true true q_mm8e.2.2.1 q_mm8e.2.2.2 (cst zWB c_bn1.2.2.1.1 q_mm8e.1) (cst zWB c_bn1.2.2.1.2 q_mm8e.2.1) = true := by decide +kernel
theorem t_mm8e {X : pX} {ρ0 : sR} (hv : vok X ρ0) : CUTOK X kR zWB c_bn1 13 ρ0 q_mm8e := CUT_run kR_x kR_0 (Cs := []) (fun C hC => by cases hC) c_bn1_f (Q := [q_be1]) hv (fun q hq => by
    simp only [List.mem_cons, List.not_mem_nil, or_false] at hq
    rw [hq]; exact t_be1 hv) 200 (b1 := true) (b2 := true) k_mm8e
theorem t_mm8 {X : pX} {ρ0 : sR} (hv : vok X ρ0) : CUTOK X kR zWB c_bn1 13 ρ0 q_mm8 := fun ρ k1 hF hI k4 => by
  have x6 : sc X ρ (156, .add (.elem (.arg 64321) (.int 0)) (.elem (.arg 64353) (.int 0)), .int 0) = true := k156.mpr (amn_8 (k157.mp (hF.2 _ (List.mem_cons_self))) (k158.mp (hF.2 _ (List.mem_cons_of_mem _ (List.mem_cons_self)))))
  have x1 : sc X ρ (101, .elem (.arg 64353) (.int 0), .int 0) = true := eva_8 (k155.mp (hF.2 _ (List.mem_cons_of_mem _ (List.mem_cons_of_mem _ (List.mem_cons_self))))) (k158.mp (hF.2 _ (List.mem_cons_of_mem _ (List.mem_cons_self))))
  exact t_mm8e hv ρ k1 ⟨hF.1, fcn (x6) (fcn (x1) (hF.2))⟩ hI k4
noncomputable def zf98zzzb_16 : sQ × Bool := ((0, .arg 60000, .op1 .l2i (.elem (.arg 64353) (.int 105))), true)
noncomputable def zf98zzzb_17 : sQ × Bool := ((158, .elem (.arg 64353) (.int 0), .int 7), true)
noncomputable def q_ma7 : sCut := ((fr 0 95 34 [(0, tr 75), (1, .int 90), (2, .int 3)] [], [fr 0 93 73 [(0, tr 75)] [], fr 0 60 30 [(0, tr 39), (1, .int 1)] [], fBot], 11), (fr 0 298 9 [(0, tr 219), (1, .arg 1308), (2, .int 6659)] [.arg 60000, .int 6659, .arg 1308, tr 219], [fr 0 297 81 [(0, tr 219), (1, .arg 1308), (5, .int 3)] [], fr 0 300 36 [(0, tr 219), (1, .arg 1308)] [], fBot], 11), [zf98zzzb_16, zf98zzzb_10, zf98zzzb_17, zf98zzzb_12, zf98zzzb_13, zf98zzzb_14, zf98zzzb_15, ((0, .arg 2816, .int 1), true), zf98zzzb_0, zf98zzzb_1, zf98zzzb_2, zf98zzzb_3, zf98zzzb_4, ((0, .arg 1698, .int 0), true), ((0, .arg 1300, .int 0), true), ((0, .arg 1302, .int 0), true), ((0, .arg 1430, .int 0), true), ((0, .arg 1318, .int 0), true), ((0, .arg 3232, .int 0), true), ((0, .arg 2050, .int 0), true), ((0, .arg 3264, .int 0), true), ((0, .arg 3296, .int 0), true), ((0, .arg 3328, .int 0), true), ((0, .arg 3168, .int 0), true), ((0, .arg 1858, .int 0), true), ((0, .arg 1890, .int 0), true), ((0, .arg 1922, .int 0), true), ((0, .arg 3008, .int 0), true), ((0, .arg 1954, .int 0), true), ((0, .arg 1986, .int 0), true), ((0, .arg 2018, .int 0), true), zf98zzzb_5, ((0, .arg 1702, .int 0), true), ((0, .arg 3360, .int 0), true), ((0, .arg 1350, .int 0), true), ((0, .arg 1826, .int 0), true), zf98zzzb_6, zf98zzzb_7, zf98zzzb_8, zf98zzzb_9, ((0, .arg 1730, .int 0), true)], i_bz)
noncomputable def zf98zzzb_18 : sQ × Bool := ((109, .add (.int 6659) (.int 0), .int 105), true)
noncomputable def zf98zzzb_19 : sQ × Bool := ((109, .add (.int 6659) (.int 1), .int 106), true)
noncomputable def zf98zzzb_20 : sQ × Bool := ((109, .add (.int 6659) (.int 2), .int 107), true)
noncomputable def zf98zzzb_21 : sQ × Bool := ((109, .add (.int 6659) (.int 3), .int 108), true)
noncomputable def zf98zzzb_22 : sQ × Bool := ((109, .add (.int 6659) (.int 4), .int 109), true)
noncomputable def zf98zzzb_23 : sQ × Bool := ((2, .arg 60000, .int 0), false)
noncomputable def zf98zzzb_24 : sQ × Bool := ((2, .int 4, .arg 60000), false)
noncomputable def q_ma7o : sCut := ((fr 0 95 34 [(0, tr 75), (1, .int 90), (2, .int 3)] [], [fr 0 93 73 [(0, tr 75)] [], fr 0 60 30 [(0, tr 39), (1, .int 1)] [], fBot], 11), (fr 0 298 9 [(0, tr 219), (1, .arg 1308), (2, .int 6659)] [.arg 60000, .int 6659, .arg 1308, tr 219], [fr 0 297 81 [(0, tr 219), (1, .arg 1308), (5, .int 3)] [], fr 0 300 36 [(0, tr 219), (1, .arg 1308)] [], fBot], 11), [zf98zzzb_18, zf98zzzb_19, zf98zzzb_20, zf98zzzb_21, zf98zzzb_22, zf98zzzb_23, zf98zzzb_24, ((139, .add (.elem (.arg 64353) (.int 0)) (.add (.int 105) (.arg 60000)), .int 0), true), zf98zzzb_16, zf98zzzb_10, zf98zzzb_17, zf98zzzb_12, zf98zzzb_13, zf98zzzb_14, zf98zzzb_15, ((0, .arg 2816, .int 1), true), zf98zzzb_0, zf98zzzb_1, zf98zzzb_2, zf98zzzb_3, zf98zzzb_4, ((0, .arg 1698, .int 0), true), ((0, .arg 1300, .int 0), true), ((0, .arg 1302, .int 0), true), ((0, .arg 1430, .int 0), true), ((0, .arg 1318, .int 0), true), ((0, .arg 3232, .int 0), true), ((0, .arg 2050, .int 0), true), ((0, .arg 3264, .int 0), true), ((0, .arg 3296, .int 0), true), ((0, .arg 3328, .int 0), true), ((0, .arg 3168, .int 0), true), ((0, .arg 1858, .int 0), true), ((0, .arg 1890, .int 0), true), ((0, .arg 1922, .int 0), true), ((0, .arg 3008, .int 0), true), ((0, .arg 1954, .int 0), true), ((0, .arg 1986, .int 0), true), ((0, .arg 2018, .int 0), true), zf98zzzb_5, ((0, .arg 1702, .int 0), true), ((0, .arg 3360, .int 0), true), ((0, .arg 1350, .int 0), true), ((0, .arg 1826, .int 0), true), zf98zzzb_6, zf98zzzb_7, zf98zzzb_8, zf98zzzb_9, ((0, .arg 1730, .int 0), true)], i_bz)
noncomputable def w_ma7o : List (sCut × List (Nat × sT) × List (Nat × sT × List (sT × sT))) := [(q_mm8T, [], [(64321, .arg 64321, []), (64353, .arg 64353, [])])]
theorem k_ma7o : cbody kR [(zWP, c_fndl), (zWB, c_mmo)] (cpl1 zWB c_bn1 [q_mm8T]) (cpl2 zWB c_bn1 [q_mm8T]) (cleafB kR zWB c_bn1 w_ma7o) 700 false false q_ma7o.2.2.1 q_ma7o.2.2.2 (cst zWB c_bn1.2.2.1.1 q_ma7o.1) (cst zWB c_bn1.2.2.1.2 q_ma7o.2.1) = true := by decide +kernel
theorem t_ma7o {X : pX} {ρ0 : sR} (hv : vok X ρ0) : CUTOK X kR zWB c_bn1 13 ρ0 q_ma7o := CUTOK_AT (fun ρ k1 hF hI k4 => AT_of (q := q_ma7o) rfl rfl (SEM_runB kR_x kR_0 (Cs := [(zWP, c_fndl), (zWB, c_mmo)]) (fun C hC => by
    simp only [List.mem_cons, List.not_mem_nil, or_false] at hC
    rcases hC with hC | hC
    · rw [hC]; exact s_fndl
    · rw [hC]; exact s_mmo) c_bn1_f (Q := w_ma7o) hv 700 (b1 := false) (b2 := false) k_ma7o k1 hF hI k4 (fun p hp ρ3 m1 m2 m3 m4 m5 m6 => by
  rw [List.mem_singleton.mp hp] at m2 m3 m5 m6 ⊢
  have eD : ρ3.1 1308 = ρ.1 1308 := (m4.1 1308 (by decide) (by decide)).1.trans (k4.1 1308 (by decide) (by decide)).1.symm
  obtain ⟨d0, d4⟩ := d_r hF.1
  have hA : ∀ j, ρ3.2.2.2.1 64321 j = ρ.2.2.2.1 64321 j := fun j => by
    have hw := m6 (64321, .arg 64321, []) (List.mem_cons_self) j
    have hw : Value.long (ρ3.2.2.2.1 64321 j) = Value.long (ρ.2.2.2.1 64321 j) := hw
    exact Value.long.inj hw
  have hB : ∀ j, ρ3.2.2.2.1 64353 j = ρ.2.2.2.1 64353 j := fun j => by
    have hw := m6 (64353, .arg 64353, []) (List.mem_cons_of_mem _ (List.mem_cons_self)) j
    have hw : Value.long (ρ3.2.2.2.1 64353 j) = Value.long (ρ.2.2.2.1 64353 j) := hw
    exact Value.long.inj hw
  have h7 := k157.mp (hF.2 _ (List.mem_cons_of_mem _ (List.mem_cons_of_mem _ (List.mem_cons_of_mem _ (List.mem_cons_of_mem _ (List.mem_cons_of_mem _ (List.mem_cons_of_mem _ (List.mem_cons_of_mem _ (List.mem_cons_of_mem _ (List.mem_cons_of_mem _ (List.mem_cons_self)))))))))))
  have h8 := k158.mp (hF.2 _ (List.mem_cons_of_mem _ (List.mem_cons_of_mem _ (List.mem_cons_of_mem _ (List.mem_cons_of_mem _ (List.mem_cons_of_mem _ (List.mem_cons_of_mem _ (List.mem_cons_of_mem _ (List.mem_cons_of_mem _ (List.mem_cons_of_mem _ (List.mem_cons_of_mem _ (List.mem_cons_self))))))))))))
  have h5 := k155.mp (hF.2 _ (List.mem_cons_of_mem _ (List.mem_cons_of_mem _ (List.mem_cons_of_mem _ (List.mem_cons_of_mem _ (List.mem_cons_of_mem _ (List.mem_cons_of_mem _ (List.mem_cons_of_mem _ (List.mem_cons_of_mem _ (List.mem_cons_of_mem _ (List.mem_cons_of_mem _ (List.mem_cons_of_mem _ (List.mem_cons_self)))))))))))))
  obtain ⟨v0, v4⟩ := ev_m4 (m := 105) (by decide) (h5 105 (by decide))
  have en : ρ.1 60000 = (ρ.2.2.2.1 64353 105).toInt32 := of_decide_eq_true (hF.2 _ (List.mem_cons_of_mem _ (List.mem_cons_of_mem _ (List.mem_cons_of_mem _ (List.mem_cons_of_mem _ (List.mem_cons_of_mem _ (List.mem_cons_of_mem _ (List.mem_cons_of_mem _ (List.mem_cons_of_mem _ (List.mem_cons_self))))))))))
  have hc : (0 : Int) = amcode (ρ.2.2.2.1 64353) 105 (ρ.1 60000).toInt.toNat := of_decide_eq_true (hF.2 _ (List.mem_cons_of_mem _ (List.mem_cons_of_mem _ (List.mem_cons_of_mem _ (List.mem_cons_of_mem _ (List.mem_cons_of_mem _ (List.mem_cons_of_mem _ (List.mem_cons_of_mem _ (List.mem_cons_self)))))))))
  rw [en, mv_l v0 (by omega)] at hc
  have eA : ρ3.2.2.2.1 64321 = ρ.2.2.2.1 64321 := funext hA
  have eB : ρ3.2.2.2.1 64353 = ρ.2.2.2.1 64353 := funext hB
  have x7 : sc X ρ3 (157, .add (.elem (.arg 64321) (.int 0)) (.add (.elem (.arg 64353) (.int 0)) (.arg 1308)), .int 8) = true := k157.mpr (by rw [eA, eB, eD]; exact h7)
  have x8 : sc X ρ3 (158, .elem (.arg 64353) (.int 0), .int 8) = true := k158.mpr (by rw [eB]; exact ampm_t (K := 7) (m := 105) rfl h8 hc.symm)
  have x5 : sc X ρ3 (155, .elem (.arg 64353) (.int 0), .int 0) = true := k155.mpr (by rw [eB]; exact h5)
  have z1 : sc X ρ3 (6, .elem (.arg 64321) (.int 1), .long 0) = true := decide_eq_true (show ρ3.2.2.2.1 64321 1 = 0 by
    rw [hA]
    exact of_decide_eq_true (hF.2 _ (List.mem_cons_of_mem _ (List.mem_cons_of_mem _ (List.mem_cons_of_mem _ (List.mem_cons_of_mem _ (List.mem_cons_of_mem _ (List.mem_cons_of_mem _ (List.mem_cons_of_mem _ (List.mem_cons_of_mem _ (List.mem_cons_of_mem _ (List.mem_cons_of_mem _ (List.mem_cons_of_mem _ (List.mem_cons_of_mem _ (List.mem_cons_self)))))))))))))))
  have z2 : sc X ρ3 (6, .elem (.arg 64353) (.int 114), .long 0) = true := decide_eq_true (show ρ3.2.2.2.1 64353 114 = 0 by
    rw [hB]
    exact of_decide_eq_true (hF.2 _ (List.mem_cons_of_mem _ (List.mem_cons_of_mem _ (List.mem_cons_of_mem _ (List.mem_cons_of_mem _ (List.mem_cons_of_mem _ (List.mem_cons_of_mem _ (List.mem_cons_of_mem _ (List.mem_cons_of_mem _ (List.mem_cons_of_mem _ (List.mem_cons_of_mem _ (List.mem_cons_of_mem _ (List.mem_cons_of_mem _ (List.mem_cons_of_mem _ (List.mem_cons_self))))))))))))))))
  have z3 : sc X ρ3 (6, .elem (.arg 64353) (.int 123), .long 0) = true := decide_eq_true (show ρ3.2.2.2.1 64353 123 = 0 by
    rw [hB]
    exact of_decide_eq_true (hF.2 _ (List.mem_cons_of_mem _ (List.mem_cons_of_mem _ (List.mem_cons_of_mem _ (List.mem_cons_of_mem _ (List.mem_cons_of_mem _ (List.mem_cons_of_mem _ (List.mem_cons_of_mem _ (List.mem_cons_of_mem _ (List.mem_cons_of_mem _ (List.mem_cons_of_mem _ (List.mem_cons_of_mem _ (List.mem_cons_of_mem _ (List.mem_cons_of_mem _ (List.mem_cons_of_mem _ (List.mem_cons_self)))))))))))))))))
  exact t_mm8 hv ρ3 m1 ⟨m2.1, fcn (x7) (fcn (x8) (fcn (x5) (fcn (z1) (fcn (z2) (fcn (z3) (m2.2))))))⟩ m3 m4)))
noncomputable def q_ma7n : sCut := ((fr 0 95 34 [(0, tr 75), (1, .int 90), (2, .int 3)] [], [fr 0 93 73 [(0, tr 75)] [], fr 0 60 30 [(0, tr 39), (1, .int 1)] [], fBot], 11), (fr 0 298 9 [(0, tr 219), (1, .arg 1308), (2, .int 6659)] [.arg 60000, .int 6659, .arg 1308, tr 219], [fr 0 297 81 [(0, tr 219), (1, .arg 1308), (5, .int 3)] [], fr 0 300 36 [(0, tr 219), (1, .arg 1308)] [], fBot], 11), [zf98zzzb_18, zf98zzzb_19, zf98zzzb_20, zf98zzzb_21, zf98zzzb_22, zf98zzzb_23, zf98zzzb_24, ((139, .add (.elem (.arg 64353) (.int 0)) (.add (.int 105) (.arg 60000)), .int 100925505), true), zf98zzzb_16, zf98zzzb_10, zf98zzzb_17, zf98zzzb_12, zf98zzzb_13, zf98zzzb_14, zf98zzzb_15, ((0, .arg 2816, .int 1), true), zf98zzzb_0, zf98zzzb_1, zf98zzzb_2, zf98zzzb_3, zf98zzzb_4, ((0, .arg 1698, .int 0), true), ((0, .arg 1300, .int 0), true), ((0, .arg 1302, .int 0), true), ((0, .arg 1430, .int 0), true), ((0, .arg 1318, .int 0), true), ((0, .arg 3232, .int 0), true), ((0, .arg 2050, .int 0), true), ((0, .arg 3264, .int 0), true), ((0, .arg 3296, .int 0), true), ((0, .arg 3328, .int 0), true), ((0, .arg 3168, .int 0), true), ((0, .arg 1858, .int 0), true), ((0, .arg 1890, .int 0), true), ((0, .arg 1922, .int 0), true), ((0, .arg 3008, .int 0), true), ((0, .arg 1954, .int 0), true), ((0, .arg 1986, .int 0), true), ((0, .arg 2018, .int 0), true), zf98zzzb_5, ((0, .arg 1702, .int 0), true), ((0, .arg 3360, .int 0), true), ((0, .arg 1350, .int 0), true), ((0, .arg 1826, .int 0), true), zf98zzzb_6, zf98zzzb_7, zf98zzzb_8, zf98zzzb_9, ((0, .arg 1730, .int 0), true)], i_bz)
noncomputable def w_ma7n : List (sCut × List (Nat × sT) × List (Nat × sT × List (sT × sT))) := [(q_mm8T, [], [(64321, .arg 64321, []), (64353, .arg 64353, [(.int 109, .long 0), (.int 108, .long 0), (.int 107, .long 0), (.int 106, .long 0), (.int 105, .long 0)])])]
theorem k_ma7n : cbody kR [(zWP, c_fndl), (zWB, c_mmn)] (cpl1 zWB c_bn1 [q_mm8T]) (cpl2 zWB c_bn1 [q_mm8T]) (cleafB kR zWB c_bn1 w_ma7n) 700 false false q_ma7n.2.2.1 q_ma7n.2.2.2 (cst zWB c_bn1.2.2.1.1 q_ma7n.1) (cst zWB c_bn1.2.2.1.2 q_ma7n.2.1) = true := by decide +kernel
theorem t_ma7n {X : pX} {ρ0 : sR} (hv : vok X ρ0) : CUTOK X kR zWB c_bn1 13 ρ0 q_ma7n := CUTOK_AT (fun ρ k1 hF hI k4 => AT_of (q := q_ma7n) rfl rfl (SEM_runB kR_x kR_0 (Cs := [(zWP, c_fndl), (zWB, c_mmn)]) (fun C hC => by
    simp only [List.mem_cons, List.not_mem_nil, or_false] at hC
    rcases hC with hC | hC
    · rw [hC]; exact s_fndl
    · rw [hC]; exact s_mmn) c_bn1_f (Q := w_ma7n) hv 700 (b1 := false) (b2 := false) k_ma7n k1 hF hI k4 (fun p hp ρ3 m1 m2 m3 m4 m5 m6 => by
  rw [List.mem_singleton.mp hp] at m2 m3 m5 m6 ⊢
  have eD : ρ3.1 1308 = ρ.1 1308 := (m4.1 1308 (by decide) (by decide)).1.trans (k4.1 1308 (by decide) (by decide)).1.symm
  obtain ⟨d0, d4⟩ := d_r hF.1
  have hA : ∀ j, ρ3.2.2.2.1 64321 j = ρ.2.2.2.1 64321 j := fun j => by
    have hw := m6 (64321, .arg 64321, []) (List.mem_cons_self) j
    have hw : Value.long (ρ3.2.2.2.1 64321 j) = Value.long (ρ.2.2.2.1 64321 j) := hw
    exact Value.long.inj hw
  obtain ⟨hBn, hBf⟩ := fiv_w (f := ρ.2.2.2.1 64353) (g := ρ3.2.2.2.1 64353) (m := 105) (d := (ρ.1 1308).toInt) (v0 := 0) (v1 := 0) (v2 := 0) (v3 := 0) (v4 := 0) (fun j => m6 (64353, .arg 64353, [(.int 109, .long 0), (.int 108, .long 0), (.int 107, .long 0), (.int 106, .long 0), (.int 105, .long 0)]) (List.mem_cons_of_mem _ (List.mem_cons_self)) j) (amw_105 d0 d4 (i := 0) (by decide)) (amw_105 d0 d4 (i := 1) (by decide)) (amw_105 d0 d4 (i := 2) (by decide)) (amw_105 d0 d4 (i := 3) (by decide)) (amw_105 d0 d4 (i := 4) (by decide))
  have h7 := k157.mp (hF.2 _ (List.mem_cons_of_mem _ (List.mem_cons_of_mem _ (List.mem_cons_of_mem _ (List.mem_cons_of_mem _ (List.mem_cons_of_mem _ (List.mem_cons_of_mem _ (List.mem_cons_of_mem _ (List.mem_cons_of_mem _ (List.mem_cons_of_mem _ (List.mem_cons_self)))))))))))
  have h8 := k158.mp (hF.2 _ (List.mem_cons_of_mem _ (List.mem_cons_of_mem _ (List.mem_cons_of_mem _ (List.mem_cons_of_mem _ (List.mem_cons_of_mem _ (List.mem_cons_of_mem _ (List.mem_cons_of_mem _ (List.mem_cons_of_mem _ (List.mem_cons_of_mem _ (List.mem_cons_of_mem _ (List.mem_cons_self))))))))))))
  have h5 := k155.mp (hF.2 _ (List.mem_cons_of_mem _ (List.mem_cons_of_mem _ (List.mem_cons_of_mem _ (List.mem_cons_of_mem _ (List.mem_cons_of_mem _ (List.mem_cons_of_mem _ (List.mem_cons_of_mem _ (List.mem_cons_of_mem _ (List.mem_cons_of_mem _ (List.mem_cons_of_mem _ (List.mem_cons_of_mem _ (List.mem_cons_self)))))))))))))
  obtain ⟨v0, v4⟩ := ev_m4 (m := 105) (by decide) (h5 105 (by decide))
  have en : ρ.1 60000 = (ρ.2.2.2.1 64353 105).toInt32 := of_decide_eq_true (hF.2 _ (List.mem_cons_of_mem _ (List.mem_cons_of_mem _ (List.mem_cons_of_mem _ (List.mem_cons_of_mem _ (List.mem_cons_of_mem _ (List.mem_cons_of_mem _ (List.mem_cons_of_mem _ (List.mem_cons_of_mem _ (List.mem_cons_self))))))))))
  have hc : (100925505 : Int) = amcode (ρ.2.2.2.1 64353) 105 (ρ.1 60000).toInt.toNat := of_decide_eq_true (hF.2 _ (List.mem_cons_of_mem _ (List.mem_cons_of_mem _ (List.mem_cons_of_mem _ (List.mem_cons_of_mem _ (List.mem_cons_of_mem _ (List.mem_cons_of_mem _ (List.mem_cons_of_mem _ (List.mem_cons_self)))))))))
  rw [en, mv_l v0 (by omega)] at hc
  have hm : 105 ∈ amps := by decide
  have hn : ¬ amcode (ρ.2.2.2.1 64353) 105 (ρ.2.2.2.1 64353 105).toInt.toNat = 0 := by rw [← hc]; decide
  have eA : ρ3.2.2.2.1 64321 = ρ.2.2.2.1 64321 := funext hA
  have x7 : sc X ρ3 (157, .add (.elem (.arg 64321) (.int 0)) (.add (.elem (.arg 64353) (.int 0)) (.arg 1308)), .int 8) = true := k157.mpr (by rw [eA, eD]; exact amn_m d0 d4 hm h7 h5 hn (fun j _ hj => hBn j hj) hBf)
  have x8 : sc X ρ3 (158, .elem (.arg 64353) (.int 0), .int 8) = true := k158.mpr (ampm_t (K := 7) (m := 105) rfl (fun x hx => by
    have hx2 : x ∈ amps := of_decide_eq_true (List.all_eq_true.mp ampm_i x (List.mem_of_mem_take hx))
    by_cases e : x = 105
    · rw [e]; exact amf_0 d0 d4 hm hBf
    · rw [amo_c hm hx2 e h5 (fun j _ hj => hBn j hj)]; exact h8 x hx) (amf_0 d0 d4 hm hBf))
  have x5 : sc X ρ3 (155, .elem (.arg 64353) (.int 0), .int 0) = true := k155.mpr (fun j hj => by
    by_cases hi : 105 ≤ j ∧ j < 105 + 5
    · rw [hBf j hi.1 hi.2]; exact evf_k d0 d4 hj
    · rw [hBn j hi]; exact h5 j hj)
  have z1 : sc X ρ3 (6, .elem (.arg 64321) (.int 1), .long 0) = true := decide_eq_true (show ρ3.2.2.2.1 64321 1 = 0 by
    rw [hA]
    exact of_decide_eq_true (hF.2 _ (List.mem_cons_of_mem _ (List.mem_cons_of_mem _ (List.mem_cons_of_mem _ (List.mem_cons_of_mem _ (List.mem_cons_of_mem _ (List.mem_cons_of_mem _ (List.mem_cons_of_mem _ (List.mem_cons_of_mem _ (List.mem_cons_of_mem _ (List.mem_cons_of_mem _ (List.mem_cons_of_mem _ (List.mem_cons_of_mem _ (List.mem_cons_self)))))))))))))))
  have z2 : sc X ρ3 (6, .elem (.arg 64353) (.int 114), .long 0) = true := decide_eq_true (show ρ3.2.2.2.1 64353 114 = 0 by
    rw [hBn 114 (by decide)]
    exact of_decide_eq_true (hF.2 _ (List.mem_cons_of_mem _ (List.mem_cons_of_mem _ (List.mem_cons_of_mem _ (List.mem_cons_of_mem _ (List.mem_cons_of_mem _ (List.mem_cons_of_mem _ (List.mem_cons_of_mem _ (List.mem_cons_of_mem _ (List.mem_cons_of_mem _ (List.mem_cons_of_mem _ (List.mem_cons_of_mem _ (List.mem_cons_of_mem _ (List.mem_cons_of_mem _ (List.mem_cons_self))))))))))))))))
  have z3 : sc X ρ3 (6, .elem (.arg 64353) (.int 123), .long 0) = true := decide_eq_true (show ρ3.2.2.2.1 64353 123 = 0 by
    rw [hBn 123 (by decide)]
    exact of_decide_eq_true (hF.2 _ (List.mem_cons_of_mem _ (List.mem_cons_of_mem _ (List.mem_cons_of_mem _ (List.mem_cons_of_mem _ (List.mem_cons_of_mem _ (List.mem_cons_of_mem _ (List.mem_cons_of_mem _ (List.mem_cons_of_mem _ (List.mem_cons_of_mem _ (List.mem_cons_of_mem _ (List.mem_cons_of_mem _ (List.mem_cons_of_mem _ (List.mem_cons_of_mem _ (List.mem_cons_of_mem _ (List.mem_cons_self)))))))))))))))))
  exact t_mm8 hv ρ3 m1 ⟨m2.1, fcn (x7) (fcn (x8) (fcn (x5) (fcn (z1) (fcn (z2) (fcn (z3) (m2.2))))))⟩ m3 m4)))
noncomputable def q_ma7l : sCut := ((fr 0 95 34 [(0, tr 75), (1, .int 90), (2, .int 3)] [], [fr 0 93 73 [(0, tr 75)] [], fr 0 60 30 [(0, tr 39), (1, .int 1)] [], fBot], 11), (fr 0 298 9 [(0, tr 219), (1, .arg 1308), (2, .int 6659)] [.arg 60000, .int 6659, .arg 1308, tr 219], [fr 0 297 81 [(0, tr 219), (1, .arg 1308), (5, .int 3)] [], fr 0 300 36 [(0, tr 219), (1, .arg 1308)] [], fBot], 11), [zf98zzzb_18, zf98zzzb_19, zf98zzzb_20, zf98zzzb_21, zf98zzzb_22, zf98zzzb_23, zf98zzzb_24, ((139, .add (.elem (.arg 64353) (.int 0)) (.add (.int 105) (.arg 60000)), .int 100925506), true), zf98zzzb_16, zf98zzzb_10, zf98zzzb_17, zf98zzzb_12, zf98zzzb_13, zf98zzzb_14, zf98zzzb_15, ((0, .arg 2816, .int 1), true), zf98zzzb_0, zf98zzzb_1, zf98zzzb_2, zf98zzzb_3, zf98zzzb_4, ((0, .arg 1698, .int 0), true), ((0, .arg 1300, .int 0), true), ((0, .arg 1302, .int 0), true), ((0, .arg 1430, .int 0), true), ((0, .arg 1318, .int 0), true), ((0, .arg 3232, .int 0), true), ((0, .arg 2050, .int 0), true), ((0, .arg 3264, .int 0), true), ((0, .arg 3296, .int 0), true), ((0, .arg 3328, .int 0), true), ((0, .arg 3168, .int 0), true), ((0, .arg 1858, .int 0), true), ((0, .arg 1890, .int 0), true), ((0, .arg 1922, .int 0), true), ((0, .arg 3008, .int 0), true), ((0, .arg 1954, .int 0), true), ((0, .arg 1986, .int 0), true), ((0, .arg 2018, .int 0), true), zf98zzzb_5, ((0, .arg 1702, .int 0), true), ((0, .arg 3360, .int 0), true), ((0, .arg 1350, .int 0), true), ((0, .arg 1826, .int 0), true), zf98zzzb_6, zf98zzzb_7, zf98zzzb_8, zf98zzzb_9, ((0, .arg 1730, .int 0), true)], i_bz)
noncomputable def w_ma7l : List (sCut × List (Nat × sT) × List (Nat × sT × List (sT × sT))) := [(q_mm8T, [], [(64321, .arg 64321, []), (64353, .arg 64353, [(.int 109, .long 0), (.int 108, .long 0), (.int 107, .long 0), (.int 106, .long 0), (.int 105, .long 0)])])]
theorem k_ma7l : cbody kR [(zWP, c_fndl), (zWB, c_mml)] (cpl1 zWB c_bn1 [q_mm8T]) (cpl2 zWB c_bn1 [q_mm8T]) (cleafB kR zWB c_bn1 w_ma7l) 700 false false q_ma7l.2.2.1 q_ma7l.2.2.2 (cst zWB c_bn1.2.2.1.1 q_ma7l.1) (cst zWB c_bn1.2.2.1.2 q_ma7l.2.1) = true := by decide +kernel
theorem t_ma7l {X : pX} {ρ0 : sR} (hv : vok X ρ0) : CUTOK X kR zWB c_bn1 13 ρ0 q_ma7l := CUTOK_AT (fun ρ k1 hF hI k4 => AT_of (q := q_ma7l) rfl rfl (SEM_runB kR_x kR_0 (Cs := [(zWP, c_fndl), (zWB, c_mml)]) (fun C hC => by
    simp only [List.mem_cons, List.not_mem_nil, or_false] at hC
    rcases hC with hC | hC
    · rw [hC]; exact s_fndl
    · rw [hC]; exact s_mml) c_bn1_f (Q := w_ma7l) hv 700 (b1 := false) (b2 := false) k_ma7l k1 hF hI k4 (fun p hp ρ3 m1 m2 m3 m4 m5 m6 => by
  rw [List.mem_singleton.mp hp] at m2 m3 m5 m6 ⊢
  have eD : ρ3.1 1308 = ρ.1 1308 := (m4.1 1308 (by decide) (by decide)).1.trans (k4.1 1308 (by decide) (by decide)).1.symm
  obtain ⟨d0, d4⟩ := d_r hF.1
  have hA : ∀ j, ρ3.2.2.2.1 64321 j = ρ.2.2.2.1 64321 j := fun j => by
    have hw := m6 (64321, .arg 64321, []) (List.mem_cons_self) j
    have hw : Value.long (ρ3.2.2.2.1 64321 j) = Value.long (ρ.2.2.2.1 64321 j) := hw
    exact Value.long.inj hw
  obtain ⟨hBn, hBf⟩ := fiv_w (f := ρ.2.2.2.1 64353) (g := ρ3.2.2.2.1 64353) (m := 105) (d := (ρ.1 1308).toInt) (v0 := 0) (v1 := 0) (v2 := 0) (v3 := 0) (v4 := 0) (fun j => m6 (64353, .arg 64353, [(.int 109, .long 0), (.int 108, .long 0), (.int 107, .long 0), (.int 106, .long 0), (.int 105, .long 0)]) (List.mem_cons_of_mem _ (List.mem_cons_self)) j) (amw_105 d0 d4 (i := 0) (by decide)) (amw_105 d0 d4 (i := 1) (by decide)) (amw_105 d0 d4 (i := 2) (by decide)) (amw_105 d0 d4 (i := 3) (by decide)) (amw_105 d0 d4 (i := 4) (by decide))
  have h7 := k157.mp (hF.2 _ (List.mem_cons_of_mem _ (List.mem_cons_of_mem _ (List.mem_cons_of_mem _ (List.mem_cons_of_mem _ (List.mem_cons_of_mem _ (List.mem_cons_of_mem _ (List.mem_cons_of_mem _ (List.mem_cons_of_mem _ (List.mem_cons_of_mem _ (List.mem_cons_self)))))))))))
  have h8 := k158.mp (hF.2 _ (List.mem_cons_of_mem _ (List.mem_cons_of_mem _ (List.mem_cons_of_mem _ (List.mem_cons_of_mem _ (List.mem_cons_of_mem _ (List.mem_cons_of_mem _ (List.mem_cons_of_mem _ (List.mem_cons_of_mem _ (List.mem_cons_of_mem _ (List.mem_cons_of_mem _ (List.mem_cons_self))))))))))))
  have h5 := k155.mp (hF.2 _ (List.mem_cons_of_mem _ (List.mem_cons_of_mem _ (List.mem_cons_of_mem _ (List.mem_cons_of_mem _ (List.mem_cons_of_mem _ (List.mem_cons_of_mem _ (List.mem_cons_of_mem _ (List.mem_cons_of_mem _ (List.mem_cons_of_mem _ (List.mem_cons_of_mem _ (List.mem_cons_of_mem _ (List.mem_cons_self)))))))))))))
  obtain ⟨v0, v4⟩ := ev_m4 (m := 105) (by decide) (h5 105 (by decide))
  have en : ρ.1 60000 = (ρ.2.2.2.1 64353 105).toInt32 := of_decide_eq_true (hF.2 _ (List.mem_cons_of_mem _ (List.mem_cons_of_mem _ (List.mem_cons_of_mem _ (List.mem_cons_of_mem _ (List.mem_cons_of_mem _ (List.mem_cons_of_mem _ (List.mem_cons_of_mem _ (List.mem_cons_of_mem _ (List.mem_cons_self))))))))))
  have hc : (100925506 : Int) = amcode (ρ.2.2.2.1 64353) 105 (ρ.1 60000).toInt.toNat := of_decide_eq_true (hF.2 _ (List.mem_cons_of_mem _ (List.mem_cons_of_mem _ (List.mem_cons_of_mem _ (List.mem_cons_of_mem _ (List.mem_cons_of_mem _ (List.mem_cons_of_mem _ (List.mem_cons_of_mem _ (List.mem_cons_self)))))))))
  rw [en, mv_l v0 (by omega)] at hc
  have hm : 105 ∈ amps := by decide
  have hn : ¬ amcode (ρ.2.2.2.1 64353) 105 (ρ.2.2.2.1 64353 105).toInt.toNat = 0 := by rw [← hc]; decide
  have eA : ρ3.2.2.2.1 64321 = ρ.2.2.2.1 64321 := funext hA
  have x7 : sc X ρ3 (157, .add (.elem (.arg 64321) (.int 0)) (.add (.elem (.arg 64353) (.int 0)) (.arg 1308)), .int 8) = true := k157.mpr (by rw [eA, eD]; exact amn_m d0 d4 hm h7 h5 hn (fun j _ hj => hBn j hj) hBf)
  have x8 : sc X ρ3 (158, .elem (.arg 64353) (.int 0), .int 8) = true := k158.mpr (ampm_t (K := 7) (m := 105) rfl (fun x hx => by
    have hx2 : x ∈ amps := of_decide_eq_true (List.all_eq_true.mp ampm_i x (List.mem_of_mem_take hx))
    by_cases e : x = 105
    · rw [e]; exact amf_0 d0 d4 hm hBf
    · rw [amo_c hm hx2 e h5 (fun j _ hj => hBn j hj)]; exact h8 x hx) (amf_0 d0 d4 hm hBf))
  have x5 : sc X ρ3 (155, .elem (.arg 64353) (.int 0), .int 0) = true := k155.mpr (fun j hj => by
    by_cases hi : 105 ≤ j ∧ j < 105 + 5
    · rw [hBf j hi.1 hi.2]; exact evf_k d0 d4 hj
    · rw [hBn j hi]; exact h5 j hj)
  have z1 : sc X ρ3 (6, .elem (.arg 64321) (.int 1), .long 0) = true := decide_eq_true (show ρ3.2.2.2.1 64321 1 = 0 by
    rw [hA]
    exact of_decide_eq_true (hF.2 _ (List.mem_cons_of_mem _ (List.mem_cons_of_mem _ (List.mem_cons_of_mem _ (List.mem_cons_of_mem _ (List.mem_cons_of_mem _ (List.mem_cons_of_mem _ (List.mem_cons_of_mem _ (List.mem_cons_of_mem _ (List.mem_cons_of_mem _ (List.mem_cons_of_mem _ (List.mem_cons_of_mem _ (List.mem_cons_of_mem _ (List.mem_cons_self)))))))))))))))
  have z2 : sc X ρ3 (6, .elem (.arg 64353) (.int 114), .long 0) = true := decide_eq_true (show ρ3.2.2.2.1 64353 114 = 0 by
    rw [hBn 114 (by decide)]
    exact of_decide_eq_true (hF.2 _ (List.mem_cons_of_mem _ (List.mem_cons_of_mem _ (List.mem_cons_of_mem _ (List.mem_cons_of_mem _ (List.mem_cons_of_mem _ (List.mem_cons_of_mem _ (List.mem_cons_of_mem _ (List.mem_cons_of_mem _ (List.mem_cons_of_mem _ (List.mem_cons_of_mem _ (List.mem_cons_of_mem _ (List.mem_cons_of_mem _ (List.mem_cons_of_mem _ (List.mem_cons_self))))))))))))))))
  have z3 : sc X ρ3 (6, .elem (.arg 64353) (.int 123), .long 0) = true := decide_eq_true (show ρ3.2.2.2.1 64353 123 = 0 by
    rw [hBn 123 (by decide)]
    exact of_decide_eq_true (hF.2 _ (List.mem_cons_of_mem _ (List.mem_cons_of_mem _ (List.mem_cons_of_mem _ (List.mem_cons_of_mem _ (List.mem_cons_of_mem _ (List.mem_cons_of_mem _ (List.mem_cons_of_mem _ (List.mem_cons_of_mem _ (List.mem_cons_of_mem _ (List.mem_cons_of_mem _ (List.mem_cons_of_mem _ (List.mem_cons_of_mem _ (List.mem_cons_of_mem _ (List.mem_cons_of_mem _ (List.mem_cons_self)))))))))))))))))
  exact t_mm8 hv ρ3 m1 ⟨m2.1, fcn (x7) (fcn (x8) (fcn (x5) (fcn (z1) (fcn (z2) (fcn (z3) (m2.2))))))⟩ m3 m4)))
theorem t_ma7 {X : pX} {ρ0 : sR} (hv : vok X ρ0) : CUTOK X kR zWB c_bn1 13 ρ0 q_ma7 := fun ρ k1 hF hI k4 => by
  have h5 := k155.mp (hF.2 _ (List.mem_cons_of_mem _ (List.mem_cons_of_mem _ (List.mem_cons_of_mem _ (List.mem_cons_self)))))
  obtain ⟨v0, v4⟩ := ev_m4 (m := 105) (by decide) (h5 105 (by decide))
  have f0 := s9_n (X := X) (ρ := ρ) (ix := 6659) (s := 0) (p := 105) (by decide +kernel)
  have f1 := s9_n (X := X) (ρ := ρ) (ix := 6659) (s := 1) (p := 106) (by decide +kernel)
  have f2 := s9_n (X := X) (ρ := ρ) (ix := 6659) (s := 2) (p := 107) (by decide +kernel)
  have f3 := s9_n (X := X) (ρ := ρ) (ix := 6659) (s := 3) (p := 108) (by decide +kernel)
  have f4 := s9_n (X := X) (ρ := ρ) (ix := 6659) (s := 4) (p := 109) (by decide +kernel)
  have en : ρ.1 60000 = (ρ.2.2.2.1 64353 105).toInt32 := of_decide_eq_true (hF.2 _ (List.mem_cons_self))
  have ev : (ρ.1 60000).toInt = (ρ.2.2.2.1 64353 105).toInt := by rw [en]; exact mv_l v0 (by omega)
  rcases am_3 (g := ρ.2.2.2.1 64353) (m := 105) (n := (ρ.1 60000).toInt.toNat) with h | h | h
  · exact t_ma7o hv ρ k1 ⟨hF.1, fcn (f0) (fcn (f1) (fcn (f2) (fcn (f3) (fcn (f4) (fcn (di_lf (x := ρ.1 60000) (y := 0) (by rw [ev]; show (0 : Int) ≤ _; exact v0)) (fcn (di_lf (x := 4) (y := ρ.1 60000) (by rw [ev]; show _ ≤ (4 : Int); exact v4)) (fcn (decide_eq_true (show (0 : Int) = amcode (ρ.2.2.2.1 64353) 105 (ρ.1 60000).toInt.toNat from h.symm)) (hF.2))))))))⟩ hI k4
  · exact t_ma7n hv ρ k1 ⟨hF.1, fcn (f0) (fcn (f1) (fcn (f2) (fcn (f3) (fcn (f4) (fcn (di_lf (x := ρ.1 60000) (y := 0) (by rw [ev]; show (0 : Int) ≤ _; exact v0)) (fcn (di_lf (x := 4) (y := ρ.1 60000) (by rw [ev]; show _ ≤ (4 : Int); exact v4)) (fcn (decide_eq_true (show (100925505 : Int) = amcode (ρ.2.2.2.1 64353) 105 (ρ.1 60000).toInt.toNat from h.symm)) (hF.2))))))))⟩ hI k4
  · exact t_ma7l hv ρ k1 ⟨hF.1, fcn (f0) (fcn (f1) (fcn (f2) (fcn (f3) (fcn (f4) (fcn (di_lf (x := ρ.1 60000) (y := 0) (by rw [ev]; show (0 : Int) ≤ _; exact v0)) (fcn (di_lf (x := 4) (y := ρ.1 60000) (by rw [ev]; show _ ≤ (4 : Int); exact v4)) (fcn (decide_eq_true (show (100925506 : Int) = amcode (ρ.2.2.2.1 64353) 105 (ρ.1 60000).toInt.toNat from h.symm)) (hF.2))))))))⟩ hI k4
noncomputable def q_mm7 : sCut := ((fr 0 95 34 [(0, tr 75), (1, .int 90), (2, .int 3)] [], [fr 0 93 73 [(0, tr 75)] [], fr 0 60 30 [(0, tr 39), (1, .int 1)] [], fBot], 11), (fr 0 297 75 [(0, tr 219), (1, .arg 1308), (5, .int 3)] [], [fr 0 300 36 [(0, tr 219), (1, .arg 1308)] [], fBot], 12), [zf98zzzb_10, zf98zzzb_17, zf98zzzb_12, zf98zzzb_13, zf98zzzb_14, zf98zzzb_15, ((0, .arg 2816, .int 1), true), zf98zzzb_0, zf98zzzb_1, zf98zzzb_2, zf98zzzb_3, zf98zzzb_4, ((0, .arg 1698, .int 0), true), ((0, .arg 1300, .int 0), true), ((0, .arg 1302, .int 0), true), ((0, .arg 1430, .int 0), true), ((0, .arg 1318, .int 0), true), ((0, .arg 3232, .int 0), true), ((0, .arg 2050, .int 0), true), ((0, .arg 3264, .int 0), true), ((0, .arg 3296, .int 0), true), ((0, .arg 3328, .int 0), true), ((0, .arg 3168, .int 0), true), ((0, .arg 1858, .int 0), true), ((0, .arg 1890, .int 0), true), ((0, .arg 1922, .int 0), true), ((0, .arg 3008, .int 0), true), ((0, .arg 1954, .int 0), true), ((0, .arg 1986, .int 0), true), ((0, .arg 2018, .int 0), true), zf98zzzb_5, ((0, .arg 1702, .int 0), true), ((0, .arg 3360, .int 0), true), ((0, .arg 1350, .int 0), true), ((0, .arg 1826, .int 0), true), zf98zzzb_6, zf98zzzb_7, zf98zzzb_8, zf98zzzb_9, ((0, .arg 1730, .int 0), true)], i_bz)
noncomputable def q_mm7g : sCut := ((fr 0 95 34 [(0, tr 75), (1, .int 90), (2, .int 3)] [], [fr 0 93 73 [(0, tr 75)] [], fr 0 60 30 [(0, tr 39), (1, .int 1)] [], fBot], 11), (fr 0 297 75 [(0, tr 219), (1, .arg 1308), (5, .int 3)] [], [fr 0 300 36 [(0, tr 219), (1, .arg 1308)] [], fBot], 12), [zf98zzzb_18, zf98zzzb_10, zf98zzzb_17, zf98zzzb_12, zf98zzzb_13, zf98zzzb_14, zf98zzzb_15, ((0, .arg 2816, .int 1), true), zf98zzzb_0, zf98zzzb_1, zf98zzzb_2, zf98zzzb_3, zf98zzzb_4, ((0, .arg 1698, .int 0), true), ((0, .arg 1300, .int 0), true), ((0, .arg 1302, .int 0), true), ((0, .arg 1430, .int 0), true), ((0, .arg 1318, .int 0), true), ((0, .arg 3232, .int 0), true), ((0, .arg 2050, .int 0), true), ((0, .arg 3264, .int 0), true), ((0, .arg 3296, .int 0), true), ((0, .arg 3328, .int 0), true), ((0, .arg 3168, .int 0), true), ((0, .arg 1858, .int 0), true), ((0, .arg 1890, .int 0), true), ((0, .arg 1922, .int 0), true), ((0, .arg 3008, .int 0), true), ((0, .arg 1954, .int 0), true), ((0, .arg 1986, .int 0), true), ((0, .arg 2018, .int 0), true), zf98zzzb_5, ((0, .arg 1702, .int 0), true), ((0, .arg 3360, .int 0), true), ((0, .arg 1350, .int 0), true), ((0, .arg 1826, .int 0), true), zf98zzzb_6, zf98zzzb_7, zf98zzzb_8, zf98zzzb_9, ((0, .arg 1730, .int 0), true)], i_bz)
theorem k_mm7g : cbody kR [(zWP, c_fndl)] (cpl1 zWB c_bn1 [q_ma7]) (cpl2 zWB c_bn1 [q_ma7]) (cleaf kR zWB c_bn1 [q_ma7]) 200 false true q_mm7g.2.2.1 q_mm7g.2.2.2 (cst zWB c_bn1.2.2.1.1 q_mm7g.1) (cst zWB c_bn1.2.2.1.2 q_mm7g.2.1) = true := by decide +kernel
theorem t_mm7g {X : pX} {ρ0 : sR} (hv : vok X ρ0) : CUTOK X kR zWB c_bn1 13 ρ0 q_mm7g := CUT_run kR_x kR_0 (Cs := [(zWP, c_fndl)]) (fun C hC => by rw [List.mem_singleton.mp hC]; exact s_fndl) c_bn1_f (Q := [q_ma7]) hv (fun q hq => by
    simp only [List.mem_cons, List.not_mem_nil, or_false] at hq
    rw [hq]; exact t_ma7 hv) 200 (b1 := false) (b2 := true) k_mm7g
theorem t_mm7 {X : pX} {ρ0 : sR} (hv : vok X ρ0) : CUTOK X kR zWB c_bn1 13 ρ0 q_mm7 := fun ρ k1 hF hI k4 => by
  exact t_mm7g hv ρ k1 ⟨hF.1, fcn (s9_n (X := X) (ρ := ρ) (ix := 6659) (s := 0) (p := 105) (by decide +kernel)) (hF.2)⟩ hI k4
noncomputable def zf98zzzb_25 : sQ × Bool := ((0, .arg 60000, .op1 .l2i (.elem (.arg 64353) (.int 65))), true)
noncomputable def zf98zzzb_26 : sQ × Bool := ((158, .elem (.arg 64353) (.int 0), .int 6), true)
noncomputable def q_ma6 : sCut := ((fr 0 95 34 [(0, tr 75), (1, .int 90), (2, .int 3)] [], [fr 0 93 73 [(0, tr 75)] [], fr 0 60 30 [(0, tr 39), (1, .int 1)] [], fBot], 11), (fr 0 298 9 [(0, tr 219), (1, .arg 1308), (2, .int 5635)] [.arg 60000, .int 5635, .arg 1308, tr 219], [fr 0 297 75 [(0, tr 219), (1, .arg 1308), (5, .int 3)] [], fr 0 300 36 [(0, tr 219), (1, .arg 1308)] [], fBot], 11), [zf98zzzb_25, zf98zzzb_10, zf98zzzb_26, zf98zzzb_12, zf98zzzb_13, zf98zzzb_14, zf98zzzb_15, ((0, .arg 2816, .int 1), true), zf98zzzb_0, zf98zzzb_1, zf98zzzb_2, zf98zzzb_3, zf98zzzb_4, ((0, .arg 1698, .int 0), true), ((0, .arg 1300, .int 0), true), ((0, .arg 1302, .int 0), true), ((0, .arg 1430, .int 0), true), ((0, .arg 1318, .int 0), true), ((0, .arg 3232, .int 0), true), ((0, .arg 2050, .int 0), true), ((0, .arg 3264, .int 0), true), ((0, .arg 3296, .int 0), true), ((0, .arg 3328, .int 0), true), ((0, .arg 3168, .int 0), true), ((0, .arg 1858, .int 0), true), ((0, .arg 1890, .int 0), true), ((0, .arg 1922, .int 0), true), ((0, .arg 3008, .int 0), true), ((0, .arg 1954, .int 0), true), ((0, .arg 1986, .int 0), true), ((0, .arg 2018, .int 0), true), zf98zzzb_5, ((0, .arg 1702, .int 0), true), ((0, .arg 3360, .int 0), true), ((0, .arg 1350, .int 0), true), ((0, .arg 1826, .int 0), true), zf98zzzb_6, zf98zzzb_7, zf98zzzb_8, zf98zzzb_9, ((0, .arg 1730, .int 0), true)], i_bz)
noncomputable def zf98zzzb_27 : sQ × Bool := ((109, .add (.int 5635) (.int 0), .int 65), true)
noncomputable def zf98zzzb_28 : sQ × Bool := ((109, .add (.int 5635) (.int 1), .int 66), true)
noncomputable def zf98zzzb_29 : sQ × Bool := ((109, .add (.int 5635) (.int 2), .int 67), true)
noncomputable def zf98zzzb_30 : sQ × Bool := ((109, .add (.int 5635) (.int 3), .int 68), true)
noncomputable def zf98zzzb_31 : sQ × Bool := ((109, .add (.int 5635) (.int 4), .int 69), true)
noncomputable def q_ma6o : sCut := ((fr 0 95 34 [(0, tr 75), (1, .int 90), (2, .int 3)] [], [fr 0 93 73 [(0, tr 75)] [], fr 0 60 30 [(0, tr 39), (1, .int 1)] [], fBot], 11), (fr 0 298 9 [(0, tr 219), (1, .arg 1308), (2, .int 5635)] [.arg 60000, .int 5635, .arg 1308, tr 219], [fr 0 297 75 [(0, tr 219), (1, .arg 1308), (5, .int 3)] [], fr 0 300 36 [(0, tr 219), (1, .arg 1308)] [], fBot], 11), [zf98zzzb_27, zf98zzzb_28, zf98zzzb_29, zf98zzzb_30, zf98zzzb_31, zf98zzzb_23, zf98zzzb_24, ((139, .add (.elem (.arg 64353) (.int 0)) (.add (.int 65) (.arg 60000)), .int 0), true), zf98zzzb_25, zf98zzzb_10, zf98zzzb_26, zf98zzzb_12, zf98zzzb_13, zf98zzzb_14, zf98zzzb_15, ((0, .arg 2816, .int 1), true), zf98zzzb_0, zf98zzzb_1, zf98zzzb_2, zf98zzzb_3, zf98zzzb_4, ((0, .arg 1698, .int 0), true), ((0, .arg 1300, .int 0), true), ((0, .arg 1302, .int 0), true), ((0, .arg 1430, .int 0), true), ((0, .arg 1318, .int 0), true), ((0, .arg 3232, .int 0), true), ((0, .arg 2050, .int 0), true), ((0, .arg 3264, .int 0), true), ((0, .arg 3296, .int 0), true), ((0, .arg 3328, .int 0), true), ((0, .arg 3168, .int 0), true), ((0, .arg 1858, .int 0), true), ((0, .arg 1890, .int 0), true), ((0, .arg 1922, .int 0), true), ((0, .arg 3008, .int 0), true), ((0, .arg 1954, .int 0), true), ((0, .arg 1986, .int 0), true), ((0, .arg 2018, .int 0), true), zf98zzzb_5, ((0, .arg 1702, .int 0), true), ((0, .arg 3360, .int 0), true), ((0, .arg 1350, .int 0), true), ((0, .arg 1826, .int 0), true), zf98zzzb_6, zf98zzzb_7, zf98zzzb_8, zf98zzzb_9, ((0, .arg 1730, .int 0), true)], i_bz)
noncomputable def w_ma6o : List (sCut × List (Nat × sT) × List (Nat × sT × List (sT × sT))) := [(q_mm7T, [], [(64321, .arg 64321, []), (64353, .arg 64353, [])])]
theorem k_ma6o : cbody kR [(zWP, c_fndl), (zWB, c_mmo)] (cpl1 zWB c_bn1 [q_mm7T]) (cpl2 zWB c_bn1 [q_mm7T]) (cleafB kR zWB c_bn1 w_ma6o) 700 false false q_ma6o.2.2.1 q_ma6o.2.2.2 (cst zWB c_bn1.2.2.1.1 q_ma6o.1) (cst zWB c_bn1.2.2.1.2 q_ma6o.2.1) = true := by decide +kernel
theorem t_ma6o {X : pX} {ρ0 : sR} (hv : vok X ρ0) : CUTOK X kR zWB c_bn1 13 ρ0 q_ma6o := CUTOK_AT (fun ρ k1 hF hI k4 => AT_of (q := q_ma6o) rfl rfl (SEM_runB kR_x kR_0 (Cs := [(zWP, c_fndl), (zWB, c_mmo)]) (fun C hC => by
    simp only [List.mem_cons, List.not_mem_nil, or_false] at hC
    rcases hC with hC | hC
    · rw [hC]; exact s_fndl
    · rw [hC]; exact s_mmo) c_bn1_f (Q := w_ma6o) hv 700 (b1 := false) (b2 := false) k_ma6o k1 hF hI k4 (fun p hp ρ3 m1 m2 m3 m4 m5 m6 => by
  rw [List.mem_singleton.mp hp] at m2 m3 m5 m6 ⊢
  have eD : ρ3.1 1308 = ρ.1 1308 := (m4.1 1308 (by decide) (by decide)).1.trans (k4.1 1308 (by decide) (by decide)).1.symm
  obtain ⟨d0, d4⟩ := d_r hF.1
  have hA : ∀ j, ρ3.2.2.2.1 64321 j = ρ.2.2.2.1 64321 j := fun j => by
    have hw := m6 (64321, .arg 64321, []) (List.mem_cons_self) j
    have hw : Value.long (ρ3.2.2.2.1 64321 j) = Value.long (ρ.2.2.2.1 64321 j) := hw
    exact Value.long.inj hw
  have hB : ∀ j, ρ3.2.2.2.1 64353 j = ρ.2.2.2.1 64353 j := fun j => by
    have hw := m6 (64353, .arg 64353, []) (List.mem_cons_of_mem _ (List.mem_cons_self)) j
    have hw : Value.long (ρ3.2.2.2.1 64353 j) = Value.long (ρ.2.2.2.1 64353 j) := hw
    exact Value.long.inj hw
  have h7 := k157.mp (hF.2 _ (List.mem_cons_of_mem _ (List.mem_cons_of_mem _ (List.mem_cons_of_mem _ (List.mem_cons_of_mem _ (List.mem_cons_of_mem _ (List.mem_cons_of_mem _ (List.mem_cons_of_mem _ (List.mem_cons_of_mem _ (List.mem_cons_of_mem _ (List.mem_cons_self)))))))))))
  have h8 := k158.mp (hF.2 _ (List.mem_cons_of_mem _ (List.mem_cons_of_mem _ (List.mem_cons_of_mem _ (List.mem_cons_of_mem _ (List.mem_cons_of_mem _ (List.mem_cons_of_mem _ (List.mem_cons_of_mem _ (List.mem_cons_of_mem _ (List.mem_cons_of_mem _ (List.mem_cons_of_mem _ (List.mem_cons_self))))))))))))
  have h5 := k155.mp (hF.2 _ (List.mem_cons_of_mem _ (List.mem_cons_of_mem _ (List.mem_cons_of_mem _ (List.mem_cons_of_mem _ (List.mem_cons_of_mem _ (List.mem_cons_of_mem _ (List.mem_cons_of_mem _ (List.mem_cons_of_mem _ (List.mem_cons_of_mem _ (List.mem_cons_of_mem _ (List.mem_cons_of_mem _ (List.mem_cons_self)))))))))))))
  obtain ⟨v0, v4⟩ := ev_m4 (m := 65) (by decide) (h5 65 (by decide))
  have en : ρ.1 60000 = (ρ.2.2.2.1 64353 65).toInt32 := of_decide_eq_true (hF.2 _ (List.mem_cons_of_mem _ (List.mem_cons_of_mem _ (List.mem_cons_of_mem _ (List.mem_cons_of_mem _ (List.mem_cons_of_mem _ (List.mem_cons_of_mem _ (List.mem_cons_of_mem _ (List.mem_cons_of_mem _ (List.mem_cons_self))))))))))
  have hc : (0 : Int) = amcode (ρ.2.2.2.1 64353) 65 (ρ.1 60000).toInt.toNat := of_decide_eq_true (hF.2 _ (List.mem_cons_of_mem _ (List.mem_cons_of_mem _ (List.mem_cons_of_mem _ (List.mem_cons_of_mem _ (List.mem_cons_of_mem _ (List.mem_cons_of_mem _ (List.mem_cons_of_mem _ (List.mem_cons_self)))))))))
  rw [en, mv_l v0 (by omega)] at hc
  have eA : ρ3.2.2.2.1 64321 = ρ.2.2.2.1 64321 := funext hA
  have eB : ρ3.2.2.2.1 64353 = ρ.2.2.2.1 64353 := funext hB
  have x7 : sc X ρ3 (157, .add (.elem (.arg 64321) (.int 0)) (.add (.elem (.arg 64353) (.int 0)) (.arg 1308)), .int 8) = true := k157.mpr (by rw [eA, eB, eD]; exact h7)
  have x8 : sc X ρ3 (158, .elem (.arg 64353) (.int 0), .int 7) = true := k158.mpr (by rw [eB]; exact ampm_t (K := 6) (m := 65) rfl h8 hc.symm)
  have x5 : sc X ρ3 (155, .elem (.arg 64353) (.int 0), .int 0) = true := k155.mpr (by rw [eB]; exact h5)
  have z1 : sc X ρ3 (6, .elem (.arg 64321) (.int 1), .long 0) = true := decide_eq_true (show ρ3.2.2.2.1 64321 1 = 0 by
    rw [hA]
    exact of_decide_eq_true (hF.2 _ (List.mem_cons_of_mem _ (List.mem_cons_of_mem _ (List.mem_cons_of_mem _ (List.mem_cons_of_mem _ (List.mem_cons_of_mem _ (List.mem_cons_of_mem _ (List.mem_cons_of_mem _ (List.mem_cons_of_mem _ (List.mem_cons_of_mem _ (List.mem_cons_of_mem _ (List.mem_cons_of_mem _ (List.mem_cons_of_mem _ (List.mem_cons_self)))))))))))))))
  have z2 : sc X ρ3 (6, .elem (.arg 64353) (.int 114), .long 0) = true := decide_eq_true (show ρ3.2.2.2.1 64353 114 = 0 by
    rw [hB]
    exact of_decide_eq_true (hF.2 _ (List.mem_cons_of_mem _ (List.mem_cons_of_mem _ (List.mem_cons_of_mem _ (List.mem_cons_of_mem _ (List.mem_cons_of_mem _ (List.mem_cons_of_mem _ (List.mem_cons_of_mem _ (List.mem_cons_of_mem _ (List.mem_cons_of_mem _ (List.mem_cons_of_mem _ (List.mem_cons_of_mem _ (List.mem_cons_of_mem _ (List.mem_cons_of_mem _ (List.mem_cons_self))))))))))))))))
  have z3 : sc X ρ3 (6, .elem (.arg 64353) (.int 123), .long 0) = true := decide_eq_true (show ρ3.2.2.2.1 64353 123 = 0 by
    rw [hB]
    exact of_decide_eq_true (hF.2 _ (List.mem_cons_of_mem _ (List.mem_cons_of_mem _ (List.mem_cons_of_mem _ (List.mem_cons_of_mem _ (List.mem_cons_of_mem _ (List.mem_cons_of_mem _ (List.mem_cons_of_mem _ (List.mem_cons_of_mem _ (List.mem_cons_of_mem _ (List.mem_cons_of_mem _ (List.mem_cons_of_mem _ (List.mem_cons_of_mem _ (List.mem_cons_of_mem _ (List.mem_cons_of_mem _ (List.mem_cons_self)))))))))))))))))
  exact t_mm7 hv ρ3 m1 ⟨m2.1, fcn (x7) (fcn (x8) (fcn (x5) (fcn (z1) (fcn (z2) (fcn (z3) (m2.2))))))⟩ m3 m4)))
noncomputable def q_ma6n : sCut := ((fr 0 95 34 [(0, tr 75), (1, .int 90), (2, .int 3)] [], [fr 0 93 73 [(0, tr 75)] [], fr 0 60 30 [(0, tr 39), (1, .int 1)] [], fBot], 11), (fr 0 298 9 [(0, tr 219), (1, .arg 1308), (2, .int 5635)] [.arg 60000, .int 5635, .arg 1308, tr 219], [fr 0 297 75 [(0, tr 219), (1, .arg 1308), (5, .int 3)] [], fr 0 300 36 [(0, tr 219), (1, .arg 1308)] [], fBot], 11), [zf98zzzb_27, zf98zzzb_28, zf98zzzb_29, zf98zzzb_30, zf98zzzb_31, zf98zzzb_23, zf98zzzb_24, ((139, .add (.elem (.arg 64353) (.int 0)) (.add (.int 65) (.arg 60000)), .int 100925505), true), zf98zzzb_25, zf98zzzb_10, zf98zzzb_26, zf98zzzb_12, zf98zzzb_13, zf98zzzb_14, zf98zzzb_15, ((0, .arg 2816, .int 1), true), zf98zzzb_0, zf98zzzb_1, zf98zzzb_2, zf98zzzb_3, zf98zzzb_4, ((0, .arg 1698, .int 0), true), ((0, .arg 1300, .int 0), true), ((0, .arg 1302, .int 0), true), ((0, .arg 1430, .int 0), true), ((0, .arg 1318, .int 0), true), ((0, .arg 3232, .int 0), true), ((0, .arg 2050, .int 0), true), ((0, .arg 3264, .int 0), true), ((0, .arg 3296, .int 0), true), ((0, .arg 3328, .int 0), true), ((0, .arg 3168, .int 0), true), ((0, .arg 1858, .int 0), true), ((0, .arg 1890, .int 0), true), ((0, .arg 1922, .int 0), true), ((0, .arg 3008, .int 0), true), ((0, .arg 1954, .int 0), true), ((0, .arg 1986, .int 0), true), ((0, .arg 2018, .int 0), true), zf98zzzb_5, ((0, .arg 1702, .int 0), true), ((0, .arg 3360, .int 0), true), ((0, .arg 1350, .int 0), true), ((0, .arg 1826, .int 0), true), zf98zzzb_6, zf98zzzb_7, zf98zzzb_8, zf98zzzb_9, ((0, .arg 1730, .int 0), true)], i_bz)
noncomputable def w_ma6n : List (sCut × List (Nat × sT) × List (Nat × sT × List (sT × sT))) := [(q_mm7T, [], [(64321, .arg 64321, []), (64353, .arg 64353, [(.int 69, .long 0), (.int 68, .long 0), (.int 67, .long 0), (.int 66, .long 0), (.int 65, .long 0)])])]
theorem k_ma6n : cbody kR [(zWP, c_fndl), (zWB, c_mmn)] (cpl1 zWB c_bn1 [q_mm7T]) (cpl2 zWB c_bn1 [q_mm7T]) (cleafB kR zWB c_bn1 w_ma6n) 700 false false q_ma6n.2.2.1 q_ma6n.2.2.2 (cst zWB c_bn1.2.2.1.1 q_ma6n.1) (cst zWB c_bn1.2.2.1.2 q_ma6n.2.1) = true := by decide +kernel
theorem t_ma6n {X : pX} {ρ0 : sR} (hv : vok X ρ0) : CUTOK X kR zWB c_bn1 13 ρ0 q_ma6n := CUTOK_AT (fun ρ k1 hF hI k4 => AT_of (q := q_ma6n) rfl rfl (SEM_runB kR_x kR_0 (Cs := [(zWP, c_fndl), (zWB, c_mmn)]) (fun C hC => by
    simp only [List.mem_cons, List.not_mem_nil, or_false] at hC
    rcases hC with hC | hC
    · rw [hC]; exact s_fndl
    · rw [hC]; exact s_mmn) c_bn1_f (Q := w_ma6n) hv 700 (b1 := false) (b2 := false) k_ma6n k1 hF hI k4 (fun p hp ρ3 m1 m2 m3 m4 m5 m6 => by
  rw [List.mem_singleton.mp hp] at m2 m3 m5 m6 ⊢
  have eD : ρ3.1 1308 = ρ.1 1308 := (m4.1 1308 (by decide) (by decide)).1.trans (k4.1 1308 (by decide) (by decide)).1.symm
  obtain ⟨d0, d4⟩ := d_r hF.1
  have hA : ∀ j, ρ3.2.2.2.1 64321 j = ρ.2.2.2.1 64321 j := fun j => by
    have hw := m6 (64321, .arg 64321, []) (List.mem_cons_self) j
    have hw : Value.long (ρ3.2.2.2.1 64321 j) = Value.long (ρ.2.2.2.1 64321 j) := hw
    exact Value.long.inj hw
  obtain ⟨hBn, hBf⟩ := fiv_w (f := ρ.2.2.2.1 64353) (g := ρ3.2.2.2.1 64353) (m := 65) (d := (ρ.1 1308).toInt) (v0 := 0) (v1 := 0) (v2 := 0) (v3 := 0) (v4 := 0) (fun j => m6 (64353, .arg 64353, [(.int 69, .long 0), (.int 68, .long 0), (.int 67, .long 0), (.int 66, .long 0), (.int 65, .long 0)]) (List.mem_cons_of_mem _ (List.mem_cons_self)) j) (amw_65 d0 d4 (i := 0) (by decide)) (amw_65 d0 d4 (i := 1) (by decide)) (amw_65 d0 d4 (i := 2) (by decide)) (amw_65 d0 d4 (i := 3) (by decide)) (amw_65 d0 d4 (i := 4) (by decide))
  have h7 := k157.mp (hF.2 _ (List.mem_cons_of_mem _ (List.mem_cons_of_mem _ (List.mem_cons_of_mem _ (List.mem_cons_of_mem _ (List.mem_cons_of_mem _ (List.mem_cons_of_mem _ (List.mem_cons_of_mem _ (List.mem_cons_of_mem _ (List.mem_cons_of_mem _ (List.mem_cons_self)))))))))))
  have h8 := k158.mp (hF.2 _ (List.mem_cons_of_mem _ (List.mem_cons_of_mem _ (List.mem_cons_of_mem _ (List.mem_cons_of_mem _ (List.mem_cons_of_mem _ (List.mem_cons_of_mem _ (List.mem_cons_of_mem _ (List.mem_cons_of_mem _ (List.mem_cons_of_mem _ (List.mem_cons_of_mem _ (List.mem_cons_self))))))))))))
  have h5 := k155.mp (hF.2 _ (List.mem_cons_of_mem _ (List.mem_cons_of_mem _ (List.mem_cons_of_mem _ (List.mem_cons_of_mem _ (List.mem_cons_of_mem _ (List.mem_cons_of_mem _ (List.mem_cons_of_mem _ (List.mem_cons_of_mem _ (List.mem_cons_of_mem _ (List.mem_cons_of_mem _ (List.mem_cons_of_mem _ (List.mem_cons_self)))))))))))))
  obtain ⟨v0, v4⟩ := ev_m4 (m := 65) (by decide) (h5 65 (by decide))
  have en : ρ.1 60000 = (ρ.2.2.2.1 64353 65).toInt32 := of_decide_eq_true (hF.2 _ (List.mem_cons_of_mem _ (List.mem_cons_of_mem _ (List.mem_cons_of_mem _ (List.mem_cons_of_mem _ (List.mem_cons_of_mem _ (List.mem_cons_of_mem _ (List.mem_cons_of_mem _ (List.mem_cons_of_mem _ (List.mem_cons_self))))))))))
  have hc : (100925505 : Int) = amcode (ρ.2.2.2.1 64353) 65 (ρ.1 60000).toInt.toNat := of_decide_eq_true (hF.2 _ (List.mem_cons_of_mem _ (List.mem_cons_of_mem _ (List.mem_cons_of_mem _ (List.mem_cons_of_mem _ (List.mem_cons_of_mem _ (List.mem_cons_of_mem _ (List.mem_cons_of_mem _ (List.mem_cons_self)))))))))
  rw [en, mv_l v0 (by omega)] at hc
  have hm : 65 ∈ amps := by decide
  have hn : ¬ amcode (ρ.2.2.2.1 64353) 65 (ρ.2.2.2.1 64353 65).toInt.toNat = 0 := by rw [← hc]; decide
  have eA : ρ3.2.2.2.1 64321 = ρ.2.2.2.1 64321 := funext hA
  have x7 : sc X ρ3 (157, .add (.elem (.arg 64321) (.int 0)) (.add (.elem (.arg 64353) (.int 0)) (.arg 1308)), .int 8) = true := k157.mpr (by rw [eA, eD]; exact amn_m d0 d4 hm h7 h5 hn (fun j _ hj => hBn j hj) hBf)
  have x8 : sc X ρ3 (158, .elem (.arg 64353) (.int 0), .int 7) = true := k158.mpr (ampm_t (K := 6) (m := 65) rfl (fun x hx => by
    have hx2 : x ∈ amps := of_decide_eq_true (List.all_eq_true.mp ampm_i x (List.mem_of_mem_take hx))
    by_cases e : x = 65
    · rw [e]; exact amf_0 d0 d4 hm hBf
    · rw [amo_c hm hx2 e h5 (fun j _ hj => hBn j hj)]; exact h8 x hx) (amf_0 d0 d4 hm hBf))
  have x5 : sc X ρ3 (155, .elem (.arg 64353) (.int 0), .int 0) = true := k155.mpr (fun j hj => by
    by_cases hi : 65 ≤ j ∧ j < 65 + 5
    · rw [hBf j hi.1 hi.2]; exact evf_k d0 d4 hj
    · rw [hBn j hi]; exact h5 j hj)
  have z1 : sc X ρ3 (6, .elem (.arg 64321) (.int 1), .long 0) = true := decide_eq_true (show ρ3.2.2.2.1 64321 1 = 0 by
    rw [hA]
    exact of_decide_eq_true (hF.2 _ (List.mem_cons_of_mem _ (List.mem_cons_of_mem _ (List.mem_cons_of_mem _ (List.mem_cons_of_mem _ (List.mem_cons_of_mem _ (List.mem_cons_of_mem _ (List.mem_cons_of_mem _ (List.mem_cons_of_mem _ (List.mem_cons_of_mem _ (List.mem_cons_of_mem _ (List.mem_cons_of_mem _ (List.mem_cons_of_mem _ (List.mem_cons_self)))))))))))))))
  have z2 : sc X ρ3 (6, .elem (.arg 64353) (.int 114), .long 0) = true := decide_eq_true (show ρ3.2.2.2.1 64353 114 = 0 by
    rw [hBn 114 (by decide)]
    exact of_decide_eq_true (hF.2 _ (List.mem_cons_of_mem _ (List.mem_cons_of_mem _ (List.mem_cons_of_mem _ (List.mem_cons_of_mem _ (List.mem_cons_of_mem _ (List.mem_cons_of_mem _ (List.mem_cons_of_mem _ (List.mem_cons_of_mem _ (List.mem_cons_of_mem _ (List.mem_cons_of_mem _ (List.mem_cons_of_mem _ (List.mem_cons_of_mem _ (List.mem_cons_of_mem _ (List.mem_cons_self))))))))))))))))
  have z3 : sc X ρ3 (6, .elem (.arg 64353) (.int 123), .long 0) = true := decide_eq_true (show ρ3.2.2.2.1 64353 123 = 0 by
    rw [hBn 123 (by decide)]
    exact of_decide_eq_true (hF.2 _ (List.mem_cons_of_mem _ (List.mem_cons_of_mem _ (List.mem_cons_of_mem _ (List.mem_cons_of_mem _ (List.mem_cons_of_mem _ (List.mem_cons_of_mem _ (List.mem_cons_of_mem _ (List.mem_cons_of_mem _ (List.mem_cons_of_mem _ (List.mem_cons_of_mem _ (List.mem_cons_of_mem _ (List.mem_cons_of_mem _ (List.mem_cons_of_mem _ (List.mem_cons_of_mem _ (List.mem_cons_self)))))))))))))))))
  exact t_mm7 hv ρ3 m1 ⟨m2.1, fcn (x7) (fcn (x8) (fcn (x5) (fcn (z1) (fcn (z2) (fcn (z3) (m2.2))))))⟩ m3 m4)))
noncomputable def q_ma6l : sCut := ((fr 0 95 34 [(0, tr 75), (1, .int 90), (2, .int 3)] [], [fr 0 93 73 [(0, tr 75)] [], fr 0 60 30 [(0, tr 39), (1, .int 1)] [], fBot], 11), (fr 0 298 9 [(0, tr 219), (1, .arg 1308), (2, .int 5635)] [.arg 60000, .int 5635, .arg 1308, tr 219], [fr 0 297 75 [(0, tr 219), (1, .arg 1308), (5, .int 3)] [], fr 0 300 36 [(0, tr 219), (1, .arg 1308)] [], fBot], 11), [zf98zzzb_27, zf98zzzb_28, zf98zzzb_29, zf98zzzb_30, zf98zzzb_31, zf98zzzb_23, zf98zzzb_24, ((139, .add (.elem (.arg 64353) (.int 0)) (.add (.int 65) (.arg 60000)), .int 100925506), true), zf98zzzb_25, zf98zzzb_10, zf98zzzb_26, zf98zzzb_12, zf98zzzb_13, zf98zzzb_14, zf98zzzb_15, ((0, .arg 2816, .int 1), true), zf98zzzb_0, zf98zzzb_1, zf98zzzb_2, zf98zzzb_3, zf98zzzb_4, ((0, .arg 1698, .int 0), true), ((0, .arg 1300, .int 0), true), ((0, .arg 1302, .int 0), true), ((0, .arg 1430, .int 0), true), ((0, .arg 1318, .int 0), true), ((0, .arg 3232, .int 0), true), ((0, .arg 2050, .int 0), true), ((0, .arg 3264, .int 0), true), ((0, .arg 3296, .int 0), true), ((0, .arg 3328, .int 0), true), ((0, .arg 3168, .int 0), true), ((0, .arg 1858, .int 0), true), ((0, .arg 1890, .int 0), true), ((0, .arg 1922, .int 0), true), ((0, .arg 3008, .int 0), true), ((0, .arg 1954, .int 0), true), ((0, .arg 1986, .int 0), true), ((0, .arg 2018, .int 0), true), zf98zzzb_5, ((0, .arg 1702, .int 0), true), ((0, .arg 3360, .int 0), true), ((0, .arg 1350, .int 0), true), ((0, .arg 1826, .int 0), true), zf98zzzb_6, zf98zzzb_7, zf98zzzb_8, zf98zzzb_9, ((0, .arg 1730, .int 0), true)], i_bz)
noncomputable def w_ma6l : List (sCut × List (Nat × sT) × List (Nat × sT × List (sT × sT))) := [(q_mm7T, [], [(64321, .arg 64321, []), (64353, .arg 64353, [(.int 69, .long 0), (.int 68, .long 0), (.int 67, .long 0), (.int 66, .long 0), (.int 65, .long 0)])])]
theorem k_ma6l : cbody kR [(zWP, c_fndl), (zWB, c_mml)] (cpl1 zWB c_bn1 [q_mm7T]) (cpl2 zWB c_bn1 [q_mm7T]) (cleafB kR zWB c_bn1 w_ma6l) 700 false false q_ma6l.2.2.1 q_ma6l.2.2.2 (cst zWB c_bn1.2.2.1.1 q_ma6l.1) (cst zWB c_bn1.2.2.1.2 q_ma6l.2.1) = true := by decide +kernel
theorem t_ma6l {X : pX} {ρ0 : sR} (hv : vok X ρ0) : CUTOK X kR zWB c_bn1 13 ρ0 q_ma6l := CUTOK_AT (fun ρ k1 hF hI k4 => AT_of (q := q_ma6l) rfl rfl (SEM_runB kR_x kR_0 (Cs := [(zWP, c_fndl), (zWB, c_mml)]) (fun C hC => by
    simp only [List.mem_cons, List.not_mem_nil, or_false] at hC
    rcases hC with hC | hC
    · rw [hC]; exact s_fndl
    · rw [hC]; exact s_mml) c_bn1_f (Q := w_ma6l) hv 700 (b1 := false) (b2 := false) k_ma6l k1 hF hI k4 (fun p hp ρ3 m1 m2 m3 m4 m5 m6 => by
  rw [List.mem_singleton.mp hp] at m2 m3 m5 m6 ⊢
  have eD : ρ3.1 1308 = ρ.1 1308 := (m4.1 1308 (by decide) (by decide)).1.trans (k4.1 1308 (by decide) (by decide)).1.symm
  obtain ⟨d0, d4⟩ := d_r hF.1
  have hA : ∀ j, ρ3.2.2.2.1 64321 j = ρ.2.2.2.1 64321 j := fun j => by
    have hw := m6 (64321, .arg 64321, []) (List.mem_cons_self) j
    have hw : Value.long (ρ3.2.2.2.1 64321 j) = Value.long (ρ.2.2.2.1 64321 j) := hw
    exact Value.long.inj hw
  obtain ⟨hBn, hBf⟩ := fiv_w (f := ρ.2.2.2.1 64353) (g := ρ3.2.2.2.1 64353) (m := 65) (d := (ρ.1 1308).toInt) (v0 := 0) (v1 := 0) (v2 := 0) (v3 := 0) (v4 := 0) (fun j => m6 (64353, .arg 64353, [(.int 69, .long 0), (.int 68, .long 0), (.int 67, .long 0), (.int 66, .long 0), (.int 65, .long 0)]) (List.mem_cons_of_mem _ (List.mem_cons_self)) j) (amw_65 d0 d4 (i := 0) (by decide)) (amw_65 d0 d4 (i := 1) (by decide)) (amw_65 d0 d4 (i := 2) (by decide)) (amw_65 d0 d4 (i := 3) (by decide)) (amw_65 d0 d4 (i := 4) (by decide))
  have h7 := k157.mp (hF.2 _ (List.mem_cons_of_mem _ (List.mem_cons_of_mem _ (List.mem_cons_of_mem _ (List.mem_cons_of_mem _ (List.mem_cons_of_mem _ (List.mem_cons_of_mem _ (List.mem_cons_of_mem _ (List.mem_cons_of_mem _ (List.mem_cons_of_mem _ (List.mem_cons_self)))))))))))
  have h8 := k158.mp (hF.2 _ (List.mem_cons_of_mem _ (List.mem_cons_of_mem _ (List.mem_cons_of_mem _ (List.mem_cons_of_mem _ (List.mem_cons_of_mem _ (List.mem_cons_of_mem _ (List.mem_cons_of_mem _ (List.mem_cons_of_mem _ (List.mem_cons_of_mem _ (List.mem_cons_of_mem _ (List.mem_cons_self))))))))))))
  have h5 := k155.mp (hF.2 _ (List.mem_cons_of_mem _ (List.mem_cons_of_mem _ (List.mem_cons_of_mem _ (List.mem_cons_of_mem _ (List.mem_cons_of_mem _ (List.mem_cons_of_mem _ (List.mem_cons_of_mem _ (List.mem_cons_of_mem _ (List.mem_cons_of_mem _ (List.mem_cons_of_mem _ (List.mem_cons_of_mem _ (List.mem_cons_self)))))))))))))
  obtain ⟨v0, v4⟩ := ev_m4 (m := 65) (by decide) (h5 65 (by decide))
  have en : ρ.1 60000 = (ρ.2.2.2.1 64353 65).toInt32 := of_decide_eq_true (hF.2 _ (List.mem_cons_of_mem _ (List.mem_cons_of_mem _ (List.mem_cons_of_mem _ (List.mem_cons_of_mem _ (List.mem_cons_of_mem _ (List.mem_cons_of_mem _ (List.mem_cons_of_mem _ (List.mem_cons_of_mem _ (List.mem_cons_self))))))))))
  have hc : (100925506 : Int) = amcode (ρ.2.2.2.1 64353) 65 (ρ.1 60000).toInt.toNat := of_decide_eq_true (hF.2 _ (List.mem_cons_of_mem _ (List.mem_cons_of_mem _ (List.mem_cons_of_mem _ (List.mem_cons_of_mem _ (List.mem_cons_of_mem _ (List.mem_cons_of_mem _ (List.mem_cons_of_mem _ (List.mem_cons_self)))))))))
  rw [en, mv_l v0 (by omega)] at hc
  have hm : 65 ∈ amps := by decide
  have hn : ¬ amcode (ρ.2.2.2.1 64353) 65 (ρ.2.2.2.1 64353 65).toInt.toNat = 0 := by rw [← hc]; decide
  have eA : ρ3.2.2.2.1 64321 = ρ.2.2.2.1 64321 := funext hA
  have x7 : sc X ρ3 (157, .add (.elem (.arg 64321) (.int 0)) (.add (.elem (.arg 64353) (.int 0)) (.arg 1308)), .int 8) = true := k157.mpr (by rw [eA, eD]; exact amn_m d0 d4 hm h7 h5 hn (fun j _ hj => hBn j hj) hBf)
  have x8 : sc X ρ3 (158, .elem (.arg 64353) (.int 0), .int 7) = true := k158.mpr (ampm_t (K := 6) (m := 65) rfl (fun x hx => by
    have hx2 : x ∈ amps := of_decide_eq_true (List.all_eq_true.mp ampm_i x (List.mem_of_mem_take hx))
    by_cases e : x = 65
    · rw [e]; exact amf_0 d0 d4 hm hBf
    · rw [amo_c hm hx2 e h5 (fun j _ hj => hBn j hj)]; exact h8 x hx) (amf_0 d0 d4 hm hBf))
  have x5 : sc X ρ3 (155, .elem (.arg 64353) (.int 0), .int 0) = true := k155.mpr (fun j hj => by
    by_cases hi : 65 ≤ j ∧ j < 65 + 5
    · rw [hBf j hi.1 hi.2]; exact evf_k d0 d4 hj
    · rw [hBn j hi]; exact h5 j hj)
  have z1 : sc X ρ3 (6, .elem (.arg 64321) (.int 1), .long 0) = true := decide_eq_true (show ρ3.2.2.2.1 64321 1 = 0 by
    rw [hA]
    exact of_decide_eq_true (hF.2 _ (List.mem_cons_of_mem _ (List.mem_cons_of_mem _ (List.mem_cons_of_mem _ (List.mem_cons_of_mem _ (List.mem_cons_of_mem _ (List.mem_cons_of_mem _ (List.mem_cons_of_mem _ (List.mem_cons_of_mem _ (List.mem_cons_of_mem _ (List.mem_cons_of_mem _ (List.mem_cons_of_mem _ (List.mem_cons_of_mem _ (List.mem_cons_self)))))))))))))))
  have z2 : sc X ρ3 (6, .elem (.arg 64353) (.int 114), .long 0) = true := decide_eq_true (show ρ3.2.2.2.1 64353 114 = 0 by
    rw [hBn 114 (by decide)]
    exact of_decide_eq_true (hF.2 _ (List.mem_cons_of_mem _ (List.mem_cons_of_mem _ (List.mem_cons_of_mem _ (List.mem_cons_of_mem _ (List.mem_cons_of_mem _ (List.mem_cons_of_mem _ (List.mem_cons_of_mem _ (List.mem_cons_of_mem _ (List.mem_cons_of_mem _ (List.mem_cons_of_mem _ (List.mem_cons_of_mem _ (List.mem_cons_of_mem _ (List.mem_cons_of_mem _ (List.mem_cons_self))))))))))))))))
  have z3 : sc X ρ3 (6, .elem (.arg 64353) (.int 123), .long 0) = true := decide_eq_true (show ρ3.2.2.2.1 64353 123 = 0 by
    rw [hBn 123 (by decide)]
    exact of_decide_eq_true (hF.2 _ (List.mem_cons_of_mem _ (List.mem_cons_of_mem _ (List.mem_cons_of_mem _ (List.mem_cons_of_mem _ (List.mem_cons_of_mem _ (List.mem_cons_of_mem _ (List.mem_cons_of_mem _ (List.mem_cons_of_mem _ (List.mem_cons_of_mem _ (List.mem_cons_of_mem _ (List.mem_cons_of_mem _ (List.mem_cons_of_mem _ (List.mem_cons_of_mem _ (List.mem_cons_of_mem _ (List.mem_cons_self)))))))))))))))))
  exact t_mm7 hv ρ3 m1 ⟨m2.1, fcn (x7) (fcn (x8) (fcn (x5) (fcn (z1) (fcn (z2) (fcn (z3) (m2.2))))))⟩ m3 m4)))
theorem t_ma6 {X : pX} {ρ0 : sR} (hv : vok X ρ0) : CUTOK X kR zWB c_bn1 13 ρ0 q_ma6 := fun ρ k1 hF hI k4 => by
  have h5 := k155.mp (hF.2 _ (List.mem_cons_of_mem _ (List.mem_cons_of_mem _ (List.mem_cons_of_mem _ (List.mem_cons_self)))))
  obtain ⟨v0, v4⟩ := ev_m4 (m := 65) (by decide) (h5 65 (by decide))
  have f0 := s9_n (X := X) (ρ := ρ) (ix := 5635) (s := 0) (p := 65) (by decide +kernel)
  have f1 := s9_n (X := X) (ρ := ρ) (ix := 5635) (s := 1) (p := 66) (by decide +kernel)
  have f2 := s9_n (X := X) (ρ := ρ) (ix := 5635) (s := 2) (p := 67) (by decide +kernel)
  have f3 := s9_n (X := X) (ρ := ρ) (ix := 5635) (s := 3) (p := 68) (by decide +kernel)
  have f4 := s9_n (X := X) (ρ := ρ) (ix := 5635) (s := 4) (p := 69) (by decide +kernel)
  have en : ρ.1 60000 = (ρ.2.2.2.1 64353 65).toInt32 := of_decide_eq_true (hF.2 _ (List.mem_cons_self))
  have ev : (ρ.1 60000).toInt = (ρ.2.2.2.1 64353 65).toInt := by rw [en]; exact mv_l v0 (by omega)
  rcases am_3 (g := ρ.2.2.2.1 64353) (m := 65) (n := (ρ.1 60000).toInt.toNat) with h | h | h
  · exact t_ma6o hv ρ k1 ⟨hF.1, fcn (f0) (fcn (f1) (fcn (f2) (fcn (f3) (fcn (f4) (fcn (di_lf (x := ρ.1 60000) (y := 0) (by rw [ev]; show (0 : Int) ≤ _; exact v0)) (fcn (di_lf (x := 4) (y := ρ.1 60000) (by rw [ev]; show _ ≤ (4 : Int); exact v4)) (fcn (decide_eq_true (show (0 : Int) = amcode (ρ.2.2.2.1 64353) 65 (ρ.1 60000).toInt.toNat from h.symm)) (hF.2))))))))⟩ hI k4
  · exact t_ma6n hv ρ k1 ⟨hF.1, fcn (f0) (fcn (f1) (fcn (f2) (fcn (f3) (fcn (f4) (fcn (di_lf (x := ρ.1 60000) (y := 0) (by rw [ev]; show (0 : Int) ≤ _; exact v0)) (fcn (di_lf (x := 4) (y := ρ.1 60000) (by rw [ev]; show _ ≤ (4 : Int); exact v4)) (fcn (decide_eq_true (show (100925505 : Int) = amcode (ρ.2.2.2.1 64353) 65 (ρ.1 60000).toInt.toNat from h.symm)) (hF.2))))))))⟩ hI k4
  · exact t_ma6l hv ρ k1 ⟨hF.1, fcn (f0) (fcn (f1) (fcn (f2) (fcn (f3) (fcn (f4) (fcn (di_lf (x := ρ.1 60000) (y := 0) (by rw [ev]; show (0 : Int) ≤ _; exact v0)) (fcn (di_lf (x := 4) (y := ρ.1 60000) (by rw [ev]; show _ ≤ (4 : Int); exact v4)) (fcn (decide_eq_true (show (100925506 : Int) = amcode (ρ.2.2.2.1 64353) 65 (ρ.1 60000).toInt.toNat from h.symm)) (hF.2))))))))⟩ hI k4
noncomputable def q_mm6 : sCut := ((fr 0 95 34 [(0, tr 75), (1, .int 90), (2, .int 3)] [], [fr 0 93 73 [(0, tr 75)] [], fr 0 60 30 [(0, tr 39), (1, .int 1)] [], fBot], 11), (fr 0 297 81 [(0, tr 219), (1, .arg 1308), (5, .int 2)] [], [fr 0 300 36 [(0, tr 219), (1, .arg 1308)] [], fBot], 12), [zf98zzzb_10, zf98zzzb_26, zf98zzzb_12, zf98zzzb_13, zf98zzzb_14, zf98zzzb_15, ((0, .arg 2816, .int 1), true), zf98zzzb_0, zf98zzzb_1, zf98zzzb_2, zf98zzzb_3, zf98zzzb_4, ((0, .arg 1698, .int 0), true), ((0, .arg 1300, .int 0), true), ((0, .arg 1302, .int 0), true), ((0, .arg 1430, .int 0), true), ((0, .arg 1318, .int 0), true), ((0, .arg 3232, .int 0), true), ((0, .arg 2050, .int 0), true), ((0, .arg 3264, .int 0), true), ((0, .arg 3296, .int 0), true), ((0, .arg 3328, .int 0), true), ((0, .arg 3168, .int 0), true), ((0, .arg 1858, .int 0), true), ((0, .arg 1890, .int 0), true), ((0, .arg 1922, .int 0), true), ((0, .arg 3008, .int 0), true), ((0, .arg 1954, .int 0), true), ((0, .arg 1986, .int 0), true), ((0, .arg 2018, .int 0), true), zf98zzzb_5, ((0, .arg 1702, .int 0), true), ((0, .arg 3360, .int 0), true), ((0, .arg 1350, .int 0), true), ((0, .arg 1826, .int 0), true), zf98zzzb_6, zf98zzzb_7, zf98zzzb_8, zf98zzzb_9, ((0, .arg 1730, .int 0), true)], i_bz)
noncomputable def q_mm6g : sCut := ((fr 0 95 34 [(0, tr 75), (1, .int 90), (2, .int 3)] [], [fr 0 93 73 [(0, tr 75)] [], fr 0 60 30 [(0, tr 39), (1, .int 1)] [], fBot], 11), (fr 0 297 81 [(0, tr 219), (1, .arg 1308), (5, .int 2)] [], [fr 0 300 36 [(0, tr 219), (1, .arg 1308)] [], fBot], 12), [zf98zzzb_27, zf98zzzb_10, zf98zzzb_26, zf98zzzb_12, zf98zzzb_13, zf98zzzb_14, zf98zzzb_15, ((0, .arg 2816, .int 1), true), zf98zzzb_0, zf98zzzb_1, zf98zzzb_2, zf98zzzb_3, zf98zzzb_4, ((0, .arg 1698, .int 0), true), ((0, .arg 1300, .int 0), true), ((0, .arg 1302, .int 0), true), ((0, .arg 1430, .int 0), true), ((0, .arg 1318, .int 0), true), ((0, .arg 3232, .int 0), true), ((0, .arg 2050, .int 0), true), ((0, .arg 3264, .int 0), true), ((0, .arg 3296, .int 0), true), ((0, .arg 3328, .int 0), true), ((0, .arg 3168, .int 0), true), ((0, .arg 1858, .int 0), true), ((0, .arg 1890, .int 0), true), ((0, .arg 1922, .int 0), true), ((0, .arg 3008, .int 0), true), ((0, .arg 1954, .int 0), true), ((0, .arg 1986, .int 0), true), ((0, .arg 2018, .int 0), true), zf98zzzb_5, ((0, .arg 1702, .int 0), true), ((0, .arg 3360, .int 0), true), ((0, .arg 1350, .int 0), true), ((0, .arg 1826, .int 0), true), zf98zzzb_6, zf98zzzb_7, zf98zzzb_8, zf98zzzb_9, ((0, .arg 1730, .int 0), true)], i_bz)
theorem k_mm6g : cbody kR [(zWP, c_fndl)] (cpl1 zWB c_bn1 [q_ma6]) (cpl2 zWB c_bn1 [q_ma6]) (cleaf kR zWB c_bn1 [q_ma6]) 200 false true q_mm6g.2.2.1 q_mm6g.2.2.2 (cst zWB c_bn1.2.2.1.1 q_mm6g.1) (cst zWB c_bn1.2.2.1.2 q_mm6g.2.1) = true := by decide +kernel
theorem t_mm6g {X : pX} {ρ0 : sR} (hv : vok X ρ0) : CUTOK X kR zWB c_bn1 13 ρ0 q_mm6g := CUT_run kR_x kR_0 (Cs := [(zWP, c_fndl)]) (fun C hC => by rw [List.mem_singleton.mp hC]; exact s_fndl) c_bn1_f (Q := [q_ma6]) hv (fun q hq => by
    simp only [List.mem_cons, List.not_mem_nil, or_false] at hq
    rw [hq]; exact t_ma6 hv) 200 (b1 := false) (b2 := true) k_mm6g
theorem t_mm6 {X : pX} {ρ0 : sR} (hv : vok X ρ0) : CUTOK X kR zWB c_bn1 13 ρ0 q_mm6 := fun ρ k1 hF hI k4 => by
  exact t_mm6g hv ρ k1 ⟨hF.1, fcn (s9_n (X := X) (ρ := ρ) (ix := 5635) (s := 0) (p := 65) (by decide +kernel)) (hF.2)⟩ hI k4
noncomputable def zf98zzzb_32 : sQ × Bool := ((0, .arg 60000, .op1 .l2i (.elem (.arg 64353) (.int 100))), true)
noncomputable def zf98zzzb_33 : sQ × Bool := ((158, .elem (.arg 64353) (.int 0), .int 5), true)
noncomputable def q_ma5 : sCut := ((fr 0 95 34 [(0, tr 75), (1, .int 90), (2, .int 3)] [], [fr 0 93 73 [(0, tr 75)] [], fr 0 60 30 [(0, tr 39), (1, .int 1)] [], fBot], 11), (fr 0 298 9 [(0, tr 219), (1, .arg 1308), (2, .int 6658)] [.arg 60000, .int 6658, .arg 1308, tr 219], [fr 0 297 81 [(0, tr 219), (1, .arg 1308), (5, .int 2)] [], fr 0 300 36 [(0, tr 219), (1, .arg 1308)] [], fBot], 11), [zf98zzzb_32, zf98zzzb_10, zf98zzzb_33, zf98zzzb_12, zf98zzzb_13, zf98zzzb_14, zf98zzzb_15, ((0, .arg 2816, .int 1), true), zf98zzzb_0, zf98zzzb_1, zf98zzzb_2, zf98zzzb_3, zf98zzzb_4, ((0, .arg 1698, .int 0), true), ((0, .arg 1300, .int 0), true), ((0, .arg 1302, .int 0), true), ((0, .arg 1430, .int 0), true), ((0, .arg 1318, .int 0), true), ((0, .arg 3232, .int 0), true), ((0, .arg 2050, .int 0), true), ((0, .arg 3264, .int 0), true), ((0, .arg 3296, .int 0), true), ((0, .arg 3328, .int 0), true), ((0, .arg 3168, .int 0), true), ((0, .arg 1858, .int 0), true), ((0, .arg 1890, .int 0), true), ((0, .arg 1922, .int 0), true), ((0, .arg 3008, .int 0), true), ((0, .arg 1954, .int 0), true), ((0, .arg 1986, .int 0), true), ((0, .arg 2018, .int 0), true), zf98zzzb_5, ((0, .arg 1702, .int 0), true), ((0, .arg 3360, .int 0), true), ((0, .arg 1350, .int 0), true), ((0, .arg 1826, .int 0), true), zf98zzzb_6, zf98zzzb_7, zf98zzzb_8, zf98zzzb_9, ((0, .arg 1730, .int 0), true)], i_bz)
noncomputable def zf98zzzb_34 : sQ × Bool := ((109, .add (.int 6658) (.int 0), .int 100), true)
noncomputable def zf98zzzb_35 : sQ × Bool := ((109, .add (.int 6658) (.int 1), .int 101), true)
noncomputable def zf98zzzb_36 : sQ × Bool := ((109, .add (.int 6658) (.int 2), .int 102), true)
noncomputable def zf98zzzb_37 : sQ × Bool := ((109, .add (.int 6658) (.int 3), .int 103), true)
noncomputable def zf98zzzb_38 : sQ × Bool := ((109, .add (.int 6658) (.int 4), .int 104), true)
noncomputable def q_ma5o : sCut := ((fr 0 95 34 [(0, tr 75), (1, .int 90), (2, .int 3)] [], [fr 0 93 73 [(0, tr 75)] [], fr 0 60 30 [(0, tr 39), (1, .int 1)] [], fBot], 11), (fr 0 298 9 [(0, tr 219), (1, .arg 1308), (2, .int 6658)] [.arg 60000, .int 6658, .arg 1308, tr 219], [fr 0 297 81 [(0, tr 219), (1, .arg 1308), (5, .int 2)] [], fr 0 300 36 [(0, tr 219), (1, .arg 1308)] [], fBot], 11), [zf98zzzb_34, zf98zzzb_35, zf98zzzb_36, zf98zzzb_37, zf98zzzb_38, zf98zzzb_23, zf98zzzb_24, ((139, .add (.elem (.arg 64353) (.int 0)) (.add (.int 100) (.arg 60000)), .int 0), true), zf98zzzb_32, zf98zzzb_10, zf98zzzb_33, zf98zzzb_12, zf98zzzb_13, zf98zzzb_14, zf98zzzb_15, ((0, .arg 2816, .int 1), true), zf98zzzb_0, zf98zzzb_1, zf98zzzb_2, zf98zzzb_3, zf98zzzb_4, ((0, .arg 1698, .int 0), true), ((0, .arg 1300, .int 0), true), ((0, .arg 1302, .int 0), true), ((0, .arg 1430, .int 0), true), ((0, .arg 1318, .int 0), true), ((0, .arg 3232, .int 0), true), ((0, .arg 2050, .int 0), true), ((0, .arg 3264, .int 0), true), ((0, .arg 3296, .int 0), true), ((0, .arg 3328, .int 0), true), ((0, .arg 3168, .int 0), true), ((0, .arg 1858, .int 0), true), ((0, .arg 1890, .int 0), true), ((0, .arg 1922, .int 0), true), ((0, .arg 3008, .int 0), true), ((0, .arg 1954, .int 0), true), ((0, .arg 1986, .int 0), true), ((0, .arg 2018, .int 0), true), zf98zzzb_5, ((0, .arg 1702, .int 0), true), ((0, .arg 3360, .int 0), true), ((0, .arg 1350, .int 0), true), ((0, .arg 1826, .int 0), true), zf98zzzb_6, zf98zzzb_7, zf98zzzb_8, zf98zzzb_9, ((0, .arg 1730, .int 0), true)], i_bz)
noncomputable def w_ma5o : List (sCut × List (Nat × sT) × List (Nat × sT × List (sT × sT))) := [(q_mm6T, [], [(64321, .arg 64321, []), (64353, .arg 64353, [])])]
theorem k_ma5o : cbody kR [(zWP, c_fndl), (zWB, c_mmo)] (cpl1 zWB c_bn1 [q_mm6T]) (cpl2 zWB c_bn1 [q_mm6T]) (cleafB kR zWB c_bn1 w_ma5o) 700 false false q_ma5o.2.2.1 q_ma5o.2.2.2 (cst zWB c_bn1.2.2.1.1 q_ma5o.1) (cst zWB c_bn1.2.2.1.2 q_ma5o.2.1) = true := by decide +kernel
theorem t_ma5o {X : pX} {ρ0 : sR} (hv : vok X ρ0) : CUTOK X kR zWB c_bn1 13 ρ0 q_ma5o := CUTOK_AT (fun ρ k1 hF hI k4 => AT_of (q := q_ma5o) rfl rfl (SEM_runB kR_x kR_0 (Cs := [(zWP, c_fndl), (zWB, c_mmo)]) (fun C hC => by
    simp only [List.mem_cons, List.not_mem_nil, or_false] at hC
    rcases hC with hC | hC
    · rw [hC]; exact s_fndl
    · rw [hC]; exact s_mmo) c_bn1_f (Q := w_ma5o) hv 700 (b1 := false) (b2 := false) k_ma5o k1 hF hI k4 (fun p hp ρ3 m1 m2 m3 m4 m5 m6 => by
  rw [List.mem_singleton.mp hp] at m2 m3 m5 m6 ⊢
  have eD : ρ3.1 1308 = ρ.1 1308 := (m4.1 1308 (by decide) (by decide)).1.trans (k4.1 1308 (by decide) (by decide)).1.symm
  obtain ⟨d0, d4⟩ := d_r hF.1
  have hA : ∀ j, ρ3.2.2.2.1 64321 j = ρ.2.2.2.1 64321 j := fun j => by
    have hw := m6 (64321, .arg 64321, []) (List.mem_cons_self) j
    have hw : Value.long (ρ3.2.2.2.1 64321 j) = Value.long (ρ.2.2.2.1 64321 j) := hw
    exact Value.long.inj hw
  have hB : ∀ j, ρ3.2.2.2.1 64353 j = ρ.2.2.2.1 64353 j := fun j => by
    have hw := m6 (64353, .arg 64353, []) (List.mem_cons_of_mem _ (List.mem_cons_self)) j
    have hw : Value.long (ρ3.2.2.2.1 64353 j) = Value.long (ρ.2.2.2.1 64353 j) := hw
    exact Value.long.inj hw
  have h7 := k157.mp (hF.2 _ (List.mem_cons_of_mem _ (List.mem_cons_of_mem _ (List.mem_cons_of_mem _ (List.mem_cons_of_mem _ (List.mem_cons_of_mem _ (List.mem_cons_of_mem _ (List.mem_cons_of_mem _ (List.mem_cons_of_mem _ (List.mem_cons_of_mem _ (List.mem_cons_self)))))))))))
  have h8 := k158.mp (hF.2 _ (List.mem_cons_of_mem _ (List.mem_cons_of_mem _ (List.mem_cons_of_mem _ (List.mem_cons_of_mem _ (List.mem_cons_of_mem _ (List.mem_cons_of_mem _ (List.mem_cons_of_mem _ (List.mem_cons_of_mem _ (List.mem_cons_of_mem _ (List.mem_cons_of_mem _ (List.mem_cons_self))))))))))))
  have h5 := k155.mp (hF.2 _ (List.mem_cons_of_mem _ (List.mem_cons_of_mem _ (List.mem_cons_of_mem _ (List.mem_cons_of_mem _ (List.mem_cons_of_mem _ (List.mem_cons_of_mem _ (List.mem_cons_of_mem _ (List.mem_cons_of_mem _ (List.mem_cons_of_mem _ (List.mem_cons_of_mem _ (List.mem_cons_of_mem _ (List.mem_cons_self)))))))))))))
  obtain ⟨v0, v4⟩ := ev_m4 (m := 100) (by decide) (h5 100 (by decide))
  have en : ρ.1 60000 = (ρ.2.2.2.1 64353 100).toInt32 := of_decide_eq_true (hF.2 _ (List.mem_cons_of_mem _ (List.mem_cons_of_mem _ (List.mem_cons_of_mem _ (List.mem_cons_of_mem _ (List.mem_cons_of_mem _ (List.mem_cons_of_mem _ (List.mem_cons_of_mem _ (List.mem_cons_of_mem _ (List.mem_cons_self))))))))))
  have hc : (0 : Int) = amcode (ρ.2.2.2.1 64353) 100 (ρ.1 60000).toInt.toNat := of_decide_eq_true (hF.2 _ (List.mem_cons_of_mem _ (List.mem_cons_of_mem _ (List.mem_cons_of_mem _ (List.mem_cons_of_mem _ (List.mem_cons_of_mem _ (List.mem_cons_of_mem _ (List.mem_cons_of_mem _ (List.mem_cons_self)))))))))
  rw [en, mv_l v0 (by omega)] at hc
  have eA : ρ3.2.2.2.1 64321 = ρ.2.2.2.1 64321 := funext hA
  have eB : ρ3.2.2.2.1 64353 = ρ.2.2.2.1 64353 := funext hB
  have x7 : sc X ρ3 (157, .add (.elem (.arg 64321) (.int 0)) (.add (.elem (.arg 64353) (.int 0)) (.arg 1308)), .int 8) = true := k157.mpr (by rw [eA, eB, eD]; exact h7)
  have x8 : sc X ρ3 (158, .elem (.arg 64353) (.int 0), .int 6) = true := k158.mpr (by rw [eB]; exact ampm_t (K := 5) (m := 100) rfl h8 hc.symm)
  have x5 : sc X ρ3 (155, .elem (.arg 64353) (.int 0), .int 0) = true := k155.mpr (by rw [eB]; exact h5)
  have z1 : sc X ρ3 (6, .elem (.arg 64321) (.int 1), .long 0) = true := decide_eq_true (show ρ3.2.2.2.1 64321 1 = 0 by
    rw [hA]
    exact of_decide_eq_true (hF.2 _ (List.mem_cons_of_mem _ (List.mem_cons_of_mem _ (List.mem_cons_of_mem _ (List.mem_cons_of_mem _ (List.mem_cons_of_mem _ (List.mem_cons_of_mem _ (List.mem_cons_of_mem _ (List.mem_cons_of_mem _ (List.mem_cons_of_mem _ (List.mem_cons_of_mem _ (List.mem_cons_of_mem _ (List.mem_cons_of_mem _ (List.mem_cons_self)))))))))))))))
  have z2 : sc X ρ3 (6, .elem (.arg 64353) (.int 114), .long 0) = true := decide_eq_true (show ρ3.2.2.2.1 64353 114 = 0 by
    rw [hB]
    exact of_decide_eq_true (hF.2 _ (List.mem_cons_of_mem _ (List.mem_cons_of_mem _ (List.mem_cons_of_mem _ (List.mem_cons_of_mem _ (List.mem_cons_of_mem _ (List.mem_cons_of_mem _ (List.mem_cons_of_mem _ (List.mem_cons_of_mem _ (List.mem_cons_of_mem _ (List.mem_cons_of_mem _ (List.mem_cons_of_mem _ (List.mem_cons_of_mem _ (List.mem_cons_of_mem _ (List.mem_cons_self))))))))))))))))
  have z3 : sc X ρ3 (6, .elem (.arg 64353) (.int 123), .long 0) = true := decide_eq_true (show ρ3.2.2.2.1 64353 123 = 0 by
    rw [hB]
    exact of_decide_eq_true (hF.2 _ (List.mem_cons_of_mem _ (List.mem_cons_of_mem _ (List.mem_cons_of_mem _ (List.mem_cons_of_mem _ (List.mem_cons_of_mem _ (List.mem_cons_of_mem _ (List.mem_cons_of_mem _ (List.mem_cons_of_mem _ (List.mem_cons_of_mem _ (List.mem_cons_of_mem _ (List.mem_cons_of_mem _ (List.mem_cons_of_mem _ (List.mem_cons_of_mem _ (List.mem_cons_of_mem _ (List.mem_cons_self)))))))))))))))))
  exact t_mm6 hv ρ3 m1 ⟨m2.1, fcn (x7) (fcn (x8) (fcn (x5) (fcn (z1) (fcn (z2) (fcn (z3) (m2.2))))))⟩ m3 m4)))
noncomputable def q_ma5n : sCut := ((fr 0 95 34 [(0, tr 75), (1, .int 90), (2, .int 3)] [], [fr 0 93 73 [(0, tr 75)] [], fr 0 60 30 [(0, tr 39), (1, .int 1)] [], fBot], 11), (fr 0 298 9 [(0, tr 219), (1, .arg 1308), (2, .int 6658)] [.arg 60000, .int 6658, .arg 1308, tr 219], [fr 0 297 81 [(0, tr 219), (1, .arg 1308), (5, .int 2)] [], fr 0 300 36 [(0, tr 219), (1, .arg 1308)] [], fBot], 11), [zf98zzzb_34, zf98zzzb_35, zf98zzzb_36, zf98zzzb_37, zf98zzzb_38, zf98zzzb_23, zf98zzzb_24, ((139, .add (.elem (.arg 64353) (.int 0)) (.add (.int 100) (.arg 60000)), .int 100925505), true), zf98zzzb_32, zf98zzzb_10, zf98zzzb_33, zf98zzzb_12, zf98zzzb_13, zf98zzzb_14, zf98zzzb_15, ((0, .arg 2816, .int 1), true), zf98zzzb_0, zf98zzzb_1, zf98zzzb_2, zf98zzzb_3, zf98zzzb_4, ((0, .arg 1698, .int 0), true), ((0, .arg 1300, .int 0), true), ((0, .arg 1302, .int 0), true), ((0, .arg 1430, .int 0), true), ((0, .arg 1318, .int 0), true), ((0, .arg 3232, .int 0), true), ((0, .arg 2050, .int 0), true), ((0, .arg 3264, .int 0), true), ((0, .arg 3296, .int 0), true), ((0, .arg 3328, .int 0), true), ((0, .arg 3168, .int 0), true), ((0, .arg 1858, .int 0), true), ((0, .arg 1890, .int 0), true), ((0, .arg 1922, .int 0), true), ((0, .arg 3008, .int 0), true), ((0, .arg 1954, .int 0), true), ((0, .arg 1986, .int 0), true), ((0, .arg 2018, .int 0), true), zf98zzzb_5, ((0, .arg 1702, .int 0), true), ((0, .arg 3360, .int 0), true), ((0, .arg 1350, .int 0), true), ((0, .arg 1826, .int 0), true), zf98zzzb_6, zf98zzzb_7, zf98zzzb_8, zf98zzzb_9, ((0, .arg 1730, .int 0), true)], i_bz)
noncomputable def w_ma5n : List (sCut × List (Nat × sT) × List (Nat × sT × List (sT × sT))) := [(q_mm6T, [], [(64321, .arg 64321, []), (64353, .arg 64353, [(.int 104, .long 0), (.int 103, .long 0), (.int 102, .long 0), (.int 101, .long 0), (.int 100, .long 0)])])]
theorem k_ma5n : cbody kR [(zWP, c_fndl), (zWB, c_mmn)] (cpl1 zWB c_bn1 [q_mm6T]) (cpl2 zWB c_bn1 [q_mm6T]) (cleafB kR zWB c_bn1 w_ma5n) 700 false false q_ma5n.2.2.1 q_ma5n.2.2.2 (cst zWB c_bn1.2.2.1.1 q_ma5n.1) (cst zWB c_bn1.2.2.1.2 q_ma5n.2.1) = true := by decide +kernel
theorem t_ma5n {X : pX} {ρ0 : sR} (hv : vok X ρ0) : CUTOK X kR zWB c_bn1 13 ρ0 q_ma5n := CUTOK_AT (fun ρ k1 hF hI k4 => AT_of (q := q_ma5n) rfl rfl (SEM_runB kR_x kR_0 (Cs := [(zWP, c_fndl), (zWB, c_mmn)]) (fun C hC => by
    simp only [List.mem_cons, List.not_mem_nil, or_false] at hC
    rcases hC with hC | hC
    · rw [hC]; exact s_fndl
    · rw [hC]; exact s_mmn) c_bn1_f (Q := w_ma5n) hv 700 (b1 := false) (b2 := false) k_ma5n k1 hF hI k4 (fun p hp ρ3 m1 m2 m3 m4 m5 m6 => by
  rw [List.mem_singleton.mp hp] at m2 m3 m5 m6 ⊢
  have eD : ρ3.1 1308 = ρ.1 1308 := (m4.1 1308 (by decide) (by decide)).1.trans (k4.1 1308 (by decide) (by decide)).1.symm
  obtain ⟨d0, d4⟩ := d_r hF.1
  have hA : ∀ j, ρ3.2.2.2.1 64321 j = ρ.2.2.2.1 64321 j := fun j => by
    have hw := m6 (64321, .arg 64321, []) (List.mem_cons_self) j
    have hw : Value.long (ρ3.2.2.2.1 64321 j) = Value.long (ρ.2.2.2.1 64321 j) := hw
    exact Value.long.inj hw
  obtain ⟨hBn, hBf⟩ := fiv_w (f := ρ.2.2.2.1 64353) (g := ρ3.2.2.2.1 64353) (m := 100) (d := (ρ.1 1308).toInt) (v0 := 0) (v1 := 0) (v2 := 0) (v3 := 0) (v4 := 0) (fun j => m6 (64353, .arg 64353, [(.int 104, .long 0), (.int 103, .long 0), (.int 102, .long 0), (.int 101, .long 0), (.int 100, .long 0)]) (List.mem_cons_of_mem _ (List.mem_cons_self)) j) (amw_100 d0 d4 (i := 0) (by decide)) (amw_100 d0 d4 (i := 1) (by decide)) (amw_100 d0 d4 (i := 2) (by decide)) (amw_100 d0 d4 (i := 3) (by decide)) (amw_100 d0 d4 (i := 4) (by decide))
  have h7 := k157.mp (hF.2 _ (List.mem_cons_of_mem _ (List.mem_cons_of_mem _ (List.mem_cons_of_mem _ (List.mem_cons_of_mem _ (List.mem_cons_of_mem _ (List.mem_cons_of_mem _ (List.mem_cons_of_mem _ (List.mem_cons_of_mem _ (List.mem_cons_of_mem _ (List.mem_cons_self)))))))))))
  have h8 := k158.mp (hF.2 _ (List.mem_cons_of_mem _ (List.mem_cons_of_mem _ (List.mem_cons_of_mem _ (List.mem_cons_of_mem _ (List.mem_cons_of_mem _ (List.mem_cons_of_mem _ (List.mem_cons_of_mem _ (List.mem_cons_of_mem _ (List.mem_cons_of_mem _ (List.mem_cons_of_mem _ (List.mem_cons_self))))))))))))
  have h5 := k155.mp (hF.2 _ (List.mem_cons_of_mem _ (List.mem_cons_of_mem _ (List.mem_cons_of_mem _ (List.mem_cons_of_mem _ (List.mem_cons_of_mem _ (List.mem_cons_of_mem _ (List.mem_cons_of_mem _ (List.mem_cons_of_mem _ (List.mem_cons_of_mem _ (List.mem_cons_of_mem _ (List.mem_cons_of_mem _ (List.mem_cons_self)))))))))))))
  obtain ⟨v0, v4⟩ := ev_m4 (m := 100) (by decide) (h5 100 (by decide))
  have en : ρ.1 60000 = (ρ.2.2.2.1 64353 100).toInt32 := of_decide_eq_true (hF.2 _ (List.mem_cons_of_mem _ (List.mem_cons_of_mem _ (List.mem_cons_of_mem _ (List.mem_cons_of_mem _ (List.mem_cons_of_mem _ (List.mem_cons_of_mem _ (List.mem_cons_of_mem _ (List.mem_cons_of_mem _ (List.mem_cons_self))))))))))
  have hc : (100925505 : Int) = amcode (ρ.2.2.2.1 64353) 100 (ρ.1 60000).toInt.toNat := of_decide_eq_true (hF.2 _ (List.mem_cons_of_mem _ (List.mem_cons_of_mem _ (List.mem_cons_of_mem _ (List.mem_cons_of_mem _ (List.mem_cons_of_mem _ (List.mem_cons_of_mem _ (List.mem_cons_of_mem _ (List.mem_cons_self)))))))))
  rw [en, mv_l v0 (by omega)] at hc
  have hm : 100 ∈ amps := by decide
  have hn : ¬ amcode (ρ.2.2.2.1 64353) 100 (ρ.2.2.2.1 64353 100).toInt.toNat = 0 := by rw [← hc]; decide
  have eA : ρ3.2.2.2.1 64321 = ρ.2.2.2.1 64321 := funext hA
  have x7 : sc X ρ3 (157, .add (.elem (.arg 64321) (.int 0)) (.add (.elem (.arg 64353) (.int 0)) (.arg 1308)), .int 8) = true := k157.mpr (by rw [eA, eD]; exact amn_m d0 d4 hm h7 h5 hn (fun j _ hj => hBn j hj) hBf)
  have x8 : sc X ρ3 (158, .elem (.arg 64353) (.int 0), .int 6) = true := k158.mpr (ampm_t (K := 5) (m := 100) rfl (fun x hx => by
    have hx2 : x ∈ amps := of_decide_eq_true (List.all_eq_true.mp ampm_i x (List.mem_of_mem_take hx))
    by_cases e : x = 100
    · rw [e]; exact amf_0 d0 d4 hm hBf
    · rw [amo_c hm hx2 e h5 (fun j _ hj => hBn j hj)]; exact h8 x hx) (amf_0 d0 d4 hm hBf))
  have x5 : sc X ρ3 (155, .elem (.arg 64353) (.int 0), .int 0) = true := k155.mpr (fun j hj => by
    by_cases hi : 100 ≤ j ∧ j < 100 + 5
    · rw [hBf j hi.1 hi.2]; exact evf_k d0 d4 hj
    · rw [hBn j hi]; exact h5 j hj)
  have z1 : sc X ρ3 (6, .elem (.arg 64321) (.int 1), .long 0) = true := decide_eq_true (show ρ3.2.2.2.1 64321 1 = 0 by
    rw [hA]
    exact of_decide_eq_true (hF.2 _ (List.mem_cons_of_mem _ (List.mem_cons_of_mem _ (List.mem_cons_of_mem _ (List.mem_cons_of_mem _ (List.mem_cons_of_mem _ (List.mem_cons_of_mem _ (List.mem_cons_of_mem _ (List.mem_cons_of_mem _ (List.mem_cons_of_mem _ (List.mem_cons_of_mem _ (List.mem_cons_of_mem _ (List.mem_cons_of_mem _ (List.mem_cons_self)))))))))))))))
  have z2 : sc X ρ3 (6, .elem (.arg 64353) (.int 114), .long 0) = true := decide_eq_true (show ρ3.2.2.2.1 64353 114 = 0 by
    rw [hBn 114 (by decide)]
    exact of_decide_eq_true (hF.2 _ (List.mem_cons_of_mem _ (List.mem_cons_of_mem _ (List.mem_cons_of_mem _ (List.mem_cons_of_mem _ (List.mem_cons_of_mem _ (List.mem_cons_of_mem _ (List.mem_cons_of_mem _ (List.mem_cons_of_mem _ (List.mem_cons_of_mem _ (List.mem_cons_of_mem _ (List.mem_cons_of_mem _ (List.mem_cons_of_mem _ (List.mem_cons_of_mem _ (List.mem_cons_self))))))))))))))))
  have z3 : sc X ρ3 (6, .elem (.arg 64353) (.int 123), .long 0) = true := decide_eq_true (show ρ3.2.2.2.1 64353 123 = 0 by
    rw [hBn 123 (by decide)]
    exact of_decide_eq_true (hF.2 _ (List.mem_cons_of_mem _ (List.mem_cons_of_mem _ (List.mem_cons_of_mem _ (List.mem_cons_of_mem _ (List.mem_cons_of_mem _ (List.mem_cons_of_mem _ (List.mem_cons_of_mem _ (List.mem_cons_of_mem _ (List.mem_cons_of_mem _ (List.mem_cons_of_mem _ (List.mem_cons_of_mem _ (List.mem_cons_of_mem _ (List.mem_cons_of_mem _ (List.mem_cons_of_mem _ (List.mem_cons_self)))))))))))))))))
  exact t_mm6 hv ρ3 m1 ⟨m2.1, fcn (x7) (fcn (x8) (fcn (x5) (fcn (z1) (fcn (z2) (fcn (z3) (m2.2))))))⟩ m3 m4)))
noncomputable def q_ma5l : sCut := ((fr 0 95 34 [(0, tr 75), (1, .int 90), (2, .int 3)] [], [fr 0 93 73 [(0, tr 75)] [], fr 0 60 30 [(0, tr 39), (1, .int 1)] [], fBot], 11), (fr 0 298 9 [(0, tr 219), (1, .arg 1308), (2, .int 6658)] [.arg 60000, .int 6658, .arg 1308, tr 219], [fr 0 297 81 [(0, tr 219), (1, .arg 1308), (5, .int 2)] [], fr 0 300 36 [(0, tr 219), (1, .arg 1308)] [], fBot], 11), [zf98zzzb_34, zf98zzzb_35, zf98zzzb_36, zf98zzzb_37, zf98zzzb_38, zf98zzzb_23, zf98zzzb_24, ((139, .add (.elem (.arg 64353) (.int 0)) (.add (.int 100) (.arg 60000)), .int 100925506), true), zf98zzzb_32, zf98zzzb_10, zf98zzzb_33, zf98zzzb_12, zf98zzzb_13, zf98zzzb_14, zf98zzzb_15, ((0, .arg 2816, .int 1), true), zf98zzzb_0, zf98zzzb_1, zf98zzzb_2, zf98zzzb_3, zf98zzzb_4, ((0, .arg 1698, .int 0), true), ((0, .arg 1300, .int 0), true), ((0, .arg 1302, .int 0), true), ((0, .arg 1430, .int 0), true), ((0, .arg 1318, .int 0), true), ((0, .arg 3232, .int 0), true), ((0, .arg 2050, .int 0), true), ((0, .arg 3264, .int 0), true), ((0, .arg 3296, .int 0), true), ((0, .arg 3328, .int 0), true), ((0, .arg 3168, .int 0), true), ((0, .arg 1858, .int 0), true), ((0, .arg 1890, .int 0), true), ((0, .arg 1922, .int 0), true), ((0, .arg 3008, .int 0), true), ((0, .arg 1954, .int 0), true), ((0, .arg 1986, .int 0), true), ((0, .arg 2018, .int 0), true), zf98zzzb_5, ((0, .arg 1702, .int 0), true), ((0, .arg 3360, .int 0), true), ((0, .arg 1350, .int 0), true), ((0, .arg 1826, .int 0), true), zf98zzzb_6, zf98zzzb_7, zf98zzzb_8, zf98zzzb_9, ((0, .arg 1730, .int 0), true)], i_bz)
noncomputable def w_ma5l : List (sCut × List (Nat × sT) × List (Nat × sT × List (sT × sT))) := [(q_mm6T, [], [(64321, .arg 64321, []), (64353, .arg 64353, [(.int 104, .long 0), (.int 103, .long 0), (.int 102, .long 0), (.int 101, .long 0), (.int 100, .long 0)])])]
theorem k_ma5l : cbody kR [(zWP, c_fndl), (zWB, c_mml)] (cpl1 zWB c_bn1 [q_mm6T]) (cpl2 zWB c_bn1 [q_mm6T]) (cleafB kR zWB c_bn1 w_ma5l) 700 false false q_ma5l.2.2.1 q_ma5l.2.2.2 (cst zWB c_bn1.2.2.1.1 q_ma5l.1) (cst zWB c_bn1.2.2.1.2 q_ma5l.2.1) = true := by decide +kernel
theorem t_ma5l {X : pX} {ρ0 : sR} (hv : vok X ρ0) : CUTOK X kR zWB c_bn1 13 ρ0 q_ma5l := CUTOK_AT (fun ρ k1 hF hI k4 => AT_of (q := q_ma5l) rfl rfl (SEM_runB kR_x kR_0 (Cs := [(zWP, c_fndl), (zWB, c_mml)]) (fun C hC => by
    simp only [List.mem_cons, List.not_mem_nil, or_false] at hC
    rcases hC with hC | hC
    · rw [hC]; exact s_fndl
    · rw [hC]; exact s_mml) c_bn1_f (Q := w_ma5l) hv 700 (b1 := false) (b2 := false) k_ma5l k1 hF hI k4 (fun p hp ρ3 m1 m2 m3 m4 m5 m6 => by
  rw [List.mem_singleton.mp hp] at m2 m3 m5 m6 ⊢
  have eD : ρ3.1 1308 = ρ.1 1308 := (m4.1 1308 (by decide) (by decide)).1.trans (k4.1 1308 (by decide) (by decide)).1.symm
  obtain ⟨d0, d4⟩ := d_r hF.1
  have hA : ∀ j, ρ3.2.2.2.1 64321 j = ρ.2.2.2.1 64321 j := fun j => by
    have hw := m6 (64321, .arg 64321, []) (List.mem_cons_self) j
    have hw : Value.long (ρ3.2.2.2.1 64321 j) = Value.long (ρ.2.2.2.1 64321 j) := hw
    exact Value.long.inj hw
  obtain ⟨hBn, hBf⟩ := fiv_w (f := ρ.2.2.2.1 64353) (g := ρ3.2.2.2.1 64353) (m := 100) (d := (ρ.1 1308).toInt) (v0 := 0) (v1 := 0) (v2 := 0) (v3 := 0) (v4 := 0) (fun j => m6 (64353, .arg 64353, [(.int 104, .long 0), (.int 103, .long 0), (.int 102, .long 0), (.int 101, .long 0), (.int 100, .long 0)]) (List.mem_cons_of_mem _ (List.mem_cons_self)) j) (amw_100 d0 d4 (i := 0) (by decide)) (amw_100 d0 d4 (i := 1) (by decide)) (amw_100 d0 d4 (i := 2) (by decide)) (amw_100 d0 d4 (i := 3) (by decide)) (amw_100 d0 d4 (i := 4) (by decide))
  have h7 := k157.mp (hF.2 _ (List.mem_cons_of_mem _ (List.mem_cons_of_mem _ (List.mem_cons_of_mem _ (List.mem_cons_of_mem _ (List.mem_cons_of_mem _ (List.mem_cons_of_mem _ (List.mem_cons_of_mem _ (List.mem_cons_of_mem _ (List.mem_cons_of_mem _ (List.mem_cons_self)))))))))))
  have h8 := k158.mp (hF.2 _ (List.mem_cons_of_mem _ (List.mem_cons_of_mem _ (List.mem_cons_of_mem _ (List.mem_cons_of_mem _ (List.mem_cons_of_mem _ (List.mem_cons_of_mem _ (List.mem_cons_of_mem _ (List.mem_cons_of_mem _ (List.mem_cons_of_mem _ (List.mem_cons_of_mem _ (List.mem_cons_self))))))))))))
  have h5 := k155.mp (hF.2 _ (List.mem_cons_of_mem _ (List.mem_cons_of_mem _ (List.mem_cons_of_mem _ (List.mem_cons_of_mem _ (List.mem_cons_of_mem _ (List.mem_cons_of_mem _ (List.mem_cons_of_mem _ (List.mem_cons_of_mem _ (List.mem_cons_of_mem _ (List.mem_cons_of_mem _ (List.mem_cons_of_mem _ (List.mem_cons_self)))))))))))))
  obtain ⟨v0, v4⟩ := ev_m4 (m := 100) (by decide) (h5 100 (by decide))
  have en : ρ.1 60000 = (ρ.2.2.2.1 64353 100).toInt32 := of_decide_eq_true (hF.2 _ (List.mem_cons_of_mem _ (List.mem_cons_of_mem _ (List.mem_cons_of_mem _ (List.mem_cons_of_mem _ (List.mem_cons_of_mem _ (List.mem_cons_of_mem _ (List.mem_cons_of_mem _ (List.mem_cons_of_mem _ (List.mem_cons_self))))))))))
  have hc : (100925506 : Int) = amcode (ρ.2.2.2.1 64353) 100 (ρ.1 60000).toInt.toNat := of_decide_eq_true (hF.2 _ (List.mem_cons_of_mem _ (List.mem_cons_of_mem _ (List.mem_cons_of_mem _ (List.mem_cons_of_mem _ (List.mem_cons_of_mem _ (List.mem_cons_of_mem _ (List.mem_cons_of_mem _ (List.mem_cons_self)))))))))
  rw [en, mv_l v0 (by omega)] at hc
  have hm : 100 ∈ amps := by decide
  have hn : ¬ amcode (ρ.2.2.2.1 64353) 100 (ρ.2.2.2.1 64353 100).toInt.toNat = 0 := by rw [← hc]; decide
  have eA : ρ3.2.2.2.1 64321 = ρ.2.2.2.1 64321 := funext hA
  have x7 : sc X ρ3 (157, .add (.elem (.arg 64321) (.int 0)) (.add (.elem (.arg 64353) (.int 0)) (.arg 1308)), .int 8) = true := k157.mpr (by rw [eA, eD]; exact amn_m d0 d4 hm h7 h5 hn (fun j _ hj => hBn j hj) hBf)
  have x8 : sc X ρ3 (158, .elem (.arg 64353) (.int 0), .int 6) = true := k158.mpr (ampm_t (K := 5) (m := 100) rfl (fun x hx => by
    have hx2 : x ∈ amps := of_decide_eq_true (List.all_eq_true.mp ampm_i x (List.mem_of_mem_take hx))
    by_cases e : x = 100
    · rw [e]; exact amf_0 d0 d4 hm hBf
    · rw [amo_c hm hx2 e h5 (fun j _ hj => hBn j hj)]; exact h8 x hx) (amf_0 d0 d4 hm hBf))
  have x5 : sc X ρ3 (155, .elem (.arg 64353) (.int 0), .int 0) = true := k155.mpr (fun j hj => by
    by_cases hi : 100 ≤ j ∧ j < 100 + 5
    · rw [hBf j hi.1 hi.2]; exact evf_k d0 d4 hj
    · rw [hBn j hi]; exact h5 j hj)
  have z1 : sc X ρ3 (6, .elem (.arg 64321) (.int 1), .long 0) = true := decide_eq_true (show ρ3.2.2.2.1 64321 1 = 0 by
    rw [hA]
    exact of_decide_eq_true (hF.2 _ (List.mem_cons_of_mem _ (List.mem_cons_of_mem _ (List.mem_cons_of_mem _ (List.mem_cons_of_mem _ (List.mem_cons_of_mem _ (List.mem_cons_of_mem _ (List.mem_cons_of_mem _ (List.mem_cons_of_mem _ (List.mem_cons_of_mem _ (List.mem_cons_of_mem _ (List.mem_cons_of_mem _ (List.mem_cons_of_mem _ (List.mem_cons_self)))))))))))))))
  have z2 : sc X ρ3 (6, .elem (.arg 64353) (.int 114), .long 0) = true := decide_eq_true (show ρ3.2.2.2.1 64353 114 = 0 by
    rw [hBn 114 (by decide)]
    exact of_decide_eq_true (hF.2 _ (List.mem_cons_of_mem _ (List.mem_cons_of_mem _ (List.mem_cons_of_mem _ (List.mem_cons_of_mem _ (List.mem_cons_of_mem _ (List.mem_cons_of_mem _ (List.mem_cons_of_mem _ (List.mem_cons_of_mem _ (List.mem_cons_of_mem _ (List.mem_cons_of_mem _ (List.mem_cons_of_mem _ (List.mem_cons_of_mem _ (List.mem_cons_of_mem _ (List.mem_cons_self))))))))))))))))
  have z3 : sc X ρ3 (6, .elem (.arg 64353) (.int 123), .long 0) = true := decide_eq_true (show ρ3.2.2.2.1 64353 123 = 0 by
    rw [hBn 123 (by decide)]
    exact of_decide_eq_true (hF.2 _ (List.mem_cons_of_mem _ (List.mem_cons_of_mem _ (List.mem_cons_of_mem _ (List.mem_cons_of_mem _ (List.mem_cons_of_mem _ (List.mem_cons_of_mem _ (List.mem_cons_of_mem _ (List.mem_cons_of_mem _ (List.mem_cons_of_mem _ (List.mem_cons_of_mem _ (List.mem_cons_of_mem _ (List.mem_cons_of_mem _ (List.mem_cons_of_mem _ (List.mem_cons_of_mem _ (List.mem_cons_self)))))))))))))))))
  exact t_mm6 hv ρ3 m1 ⟨m2.1, fcn (x7) (fcn (x8) (fcn (x5) (fcn (z1) (fcn (z2) (fcn (z3) (m2.2))))))⟩ m3 m4)))
theorem t_ma5 {X : pX} {ρ0 : sR} (hv : vok X ρ0) : CUTOK X kR zWB c_bn1 13 ρ0 q_ma5 := fun ρ k1 hF hI k4 => by
  have h5 := k155.mp (hF.2 _ (List.mem_cons_of_mem _ (List.mem_cons_of_mem _ (List.mem_cons_of_mem _ (List.mem_cons_self)))))
  obtain ⟨v0, v4⟩ := ev_m4 (m := 100) (by decide) (h5 100 (by decide))
  have f0 := s9_n (X := X) (ρ := ρ) (ix := 6658) (s := 0) (p := 100) (by decide +kernel)
  have f1 := s9_n (X := X) (ρ := ρ) (ix := 6658) (s := 1) (p := 101) (by decide +kernel)
  have f2 := s9_n (X := X) (ρ := ρ) (ix := 6658) (s := 2) (p := 102) (by decide +kernel)
  have f3 := s9_n (X := X) (ρ := ρ) (ix := 6658) (s := 3) (p := 103) (by decide +kernel)
  have f4 := s9_n (X := X) (ρ := ρ) (ix := 6658) (s := 4) (p := 104) (by decide +kernel)
  have en : ρ.1 60000 = (ρ.2.2.2.1 64353 100).toInt32 := of_decide_eq_true (hF.2 _ (List.mem_cons_self))
  have ev : (ρ.1 60000).toInt = (ρ.2.2.2.1 64353 100).toInt := by rw [en]; exact mv_l v0 (by omega)
  rcases am_3 (g := ρ.2.2.2.1 64353) (m := 100) (n := (ρ.1 60000).toInt.toNat) with h | h | h
  · exact t_ma5o hv ρ k1 ⟨hF.1, fcn (f0) (fcn (f1) (fcn (f2) (fcn (f3) (fcn (f4) (fcn (di_lf (x := ρ.1 60000) (y := 0) (by rw [ev]; show (0 : Int) ≤ _; exact v0)) (fcn (di_lf (x := 4) (y := ρ.1 60000) (by rw [ev]; show _ ≤ (4 : Int); exact v4)) (fcn (decide_eq_true (show (0 : Int) = amcode (ρ.2.2.2.1 64353) 100 (ρ.1 60000).toInt.toNat from h.symm)) (hF.2))))))))⟩ hI k4
  · exact t_ma5n hv ρ k1 ⟨hF.1, fcn (f0) (fcn (f1) (fcn (f2) (fcn (f3) (fcn (f4) (fcn (di_lf (x := ρ.1 60000) (y := 0) (by rw [ev]; show (0 : Int) ≤ _; exact v0)) (fcn (di_lf (x := 4) (y := ρ.1 60000) (by rw [ev]; show _ ≤ (4 : Int); exact v4)) (fcn (decide_eq_true (show (100925505 : Int) = amcode (ρ.2.2.2.1 64353) 100 (ρ.1 60000).toInt.toNat from h.symm)) (hF.2))))))))⟩ hI k4
  · exact t_ma5l hv ρ k1 ⟨hF.1, fcn (f0) (fcn (f1) (fcn (f2) (fcn (f3) (fcn (f4) (fcn (di_lf (x := ρ.1 60000) (y := 0) (by rw [ev]; show (0 : Int) ≤ _; exact v0)) (fcn (di_lf (x := 4) (y := ρ.1 60000) (by rw [ev]; show _ ≤ (4 : Int); exact v4)) (fcn (decide_eq_true (show (100925506 : Int) = amcode (ρ.2.2.2.1 64353) 100 (ρ.1 60000).toInt.toNat from h.symm)) (hF.2))))))))⟩ hI k4
noncomputable def q_mm5 : sCut := ((fr 0 95 34 [(0, tr 75), (1, .int 90), (2, .int 3)] [], [fr 0 93 73 [(0, tr 75)] [], fr 0 60 30 [(0, tr 39), (1, .int 1)] [], fBot], 11), (fr 0 297 75 [(0, tr 219), (1, .arg 1308), (5, .int 2)] [], [fr 0 300 36 [(0, tr 219), (1, .arg 1308)] [], fBot], 12), [zf98zzzb_10, zf98zzzb_33, zf98zzzb_12, zf98zzzb_13, zf98zzzb_14, zf98zzzb_15, ((0, .arg 2816, .int 1), true), zf98zzzb_0, zf98zzzb_1, zf98zzzb_2, zf98zzzb_3, zf98zzzb_4, ((0, .arg 1698, .int 0), true), ((0, .arg 1300, .int 0), true), ((0, .arg 1302, .int 0), true), ((0, .arg 1430, .int 0), true), ((0, .arg 1318, .int 0), true), ((0, .arg 3232, .int 0), true), ((0, .arg 2050, .int 0), true), ((0, .arg 3264, .int 0), true), ((0, .arg 3296, .int 0), true), ((0, .arg 3328, .int 0), true), ((0, .arg 3168, .int 0), true), ((0, .arg 1858, .int 0), true), ((0, .arg 1890, .int 0), true), ((0, .arg 1922, .int 0), true), ((0, .arg 3008, .int 0), true), ((0, .arg 1954, .int 0), true), ((0, .arg 1986, .int 0), true), ((0, .arg 2018, .int 0), true), zf98zzzb_5, ((0, .arg 1702, .int 0), true), ((0, .arg 3360, .int 0), true), ((0, .arg 1350, .int 0), true), ((0, .arg 1826, .int 0), true), zf98zzzb_6, zf98zzzb_7, zf98zzzb_8, zf98zzzb_9, ((0, .arg 1730, .int 0), true)], i_bz)
noncomputable def q_mm5g : sCut := ((fr 0 95 34 [(0, tr 75), (1, .int 90), (2, .int 3)] [], [fr 0 93 73 [(0, tr 75)] [], fr 0 60 30 [(0, tr 39), (1, .int 1)] [], fBot], 11), (fr 0 297 75 [(0, tr 219), (1, .arg 1308), (5, .int 2)] [], [fr 0 300 36 [(0, tr 219), (1, .arg 1308)] [], fBot], 12), [zf98zzzb_34, zf98zzzb_10, zf98zzzb_33, zf98zzzb_12, zf98zzzb_13, zf98zzzb_14, zf98zzzb_15, ((0, .arg 2816, .int 1), true), zf98zzzb_0, zf98zzzb_1, zf98zzzb_2, zf98zzzb_3, zf98zzzb_4, ((0, .arg 1698, .int 0), true), ((0, .arg 1300, .int 0), true), ((0, .arg 1302, .int 0), true), ((0, .arg 1430, .int 0), true), ((0, .arg 1318, .int 0), true), ((0, .arg 3232, .int 0), true), ((0, .arg 2050, .int 0), true), ((0, .arg 3264, .int 0), true), ((0, .arg 3296, .int 0), true), ((0, .arg 3328, .int 0), true), ((0, .arg 3168, .int 0), true), ((0, .arg 1858, .int 0), true), ((0, .arg 1890, .int 0), true), ((0, .arg 1922, .int 0), true), ((0, .arg 3008, .int 0), true), ((0, .arg 1954, .int 0), true), ((0, .arg 1986, .int 0), true), ((0, .arg 2018, .int 0), true), zf98zzzb_5, ((0, .arg 1702, .int 0), true), ((0, .arg 3360, .int 0), true), ((0, .arg 1350, .int 0), true), ((0, .arg 1826, .int 0), true), zf98zzzb_6, zf98zzzb_7, zf98zzzb_8, zf98zzzb_9, ((0, .arg 1730, .int 0), true)], i_bz)
theorem k_mm5g : cbody kR [(zWP, c_fndl)] (cpl1 zWB c_bn1 [q_ma5]) (cpl2 zWB c_bn1 [q_ma5]) (cleaf kR zWB c_bn1 [q_ma5]) 200 false true q_mm5g.2.2.1 q_mm5g.2.2.2 (cst zWB c_bn1.2.2.1.1 q_mm5g.1) (cst zWB c_bn1.2.2.1.2 q_mm5g.2.1) = true := by decide +kernel
theorem t_mm5g {X : pX} {ρ0 : sR} (hv : vok X ρ0) : CUTOK X kR zWB c_bn1 13 ρ0 q_mm5g := CUT_run kR_x kR_0 (Cs := [(zWP, c_fndl)]) (fun C hC => by rw [List.mem_singleton.mp hC]; exact s_fndl) c_bn1_f (Q := [q_ma5]) hv (fun q hq => by
    simp only [List.mem_cons, List.not_mem_nil, or_false] at hq
    rw [hq]; exact t_ma5 hv) 200 (b1 := false) (b2 := true) k_mm5g
theorem t_mm5 {X : pX} {ρ0 : sR} (hv : vok X ρ0) : CUTOK X kR zWB c_bn1 13 ρ0 q_mm5 := fun ρ k1 hF hI k4 => by
  exact t_mm5g hv ρ k1 ⟨hF.1, fcn (s9_n (X := X) (ρ := ρ) (ix := 6658) (s := 0) (p := 100) (by decide +kernel)) (hF.2)⟩ hI k4
noncomputable def zf98zzzb_39 : sQ × Bool := ((0, .arg 60000, .op1 .l2i (.elem (.arg 64353) (.int 60))), true)
noncomputable def zf98zzzb_40 : sQ × Bool := ((158, .elem (.arg 64353) (.int 0), .int 4), true)
noncomputable def q_ma4 : sCut := ((fr 0 95 34 [(0, tr 75), (1, .int 90), (2, .int 3)] [], [fr 0 93 73 [(0, tr 75)] [], fr 0 60 30 [(0, tr 39), (1, .int 1)] [], fBot], 11), (fr 0 298 9 [(0, tr 219), (1, .arg 1308), (2, .int 5634)] [.arg 60000, .int 5634, .arg 1308, tr 219], [fr 0 297 75 [(0, tr 219), (1, .arg 1308), (5, .int 2)] [], fr 0 300 36 [(0, tr 219), (1, .arg 1308)] [], fBot], 11), [zf98zzzb_39, zf98zzzb_10, zf98zzzb_40, zf98zzzb_12, zf98zzzb_13, zf98zzzb_14, zf98zzzb_15, ((0, .arg 2816, .int 1), true), zf98zzzb_0, zf98zzzb_1, zf98zzzb_2, zf98zzzb_3, zf98zzzb_4, ((0, .arg 1698, .int 0), true), ((0, .arg 1300, .int 0), true), ((0, .arg 1302, .int 0), true), ((0, .arg 1430, .int 0), true), ((0, .arg 1318, .int 0), true), ((0, .arg 3232, .int 0), true), ((0, .arg 2050, .int 0), true), ((0, .arg 3264, .int 0), true), ((0, .arg 3296, .int 0), true), ((0, .arg 3328, .int 0), true), ((0, .arg 3168, .int 0), true), ((0, .arg 1858, .int 0), true), ((0, .arg 1890, .int 0), true), ((0, .arg 1922, .int 0), true), ((0, .arg 3008, .int 0), true), ((0, .arg 1954, .int 0), true), ((0, .arg 1986, .int 0), true), ((0, .arg 2018, .int 0), true), zf98zzzb_5, ((0, .arg 1702, .int 0), true), ((0, .arg 3360, .int 0), true), ((0, .arg 1350, .int 0), true), ((0, .arg 1826, .int 0), true), zf98zzzb_6, zf98zzzb_7, zf98zzzb_8, zf98zzzb_9, ((0, .arg 1730, .int 0), true)], i_bz)
noncomputable def zf98zzzb_41 : sQ × Bool := ((109, .add (.int 5634) (.int 0), .int 60), true)
noncomputable def zf98zzzb_42 : sQ × Bool := ((109, .add (.int 5634) (.int 1), .int 61), true)
noncomputable def zf98zzzb_43 : sQ × Bool := ((109, .add (.int 5634) (.int 2), .int 62), true)
noncomputable def zf98zzzb_44 : sQ × Bool := ((109, .add (.int 5634) (.int 3), .int 63), true)
noncomputable def zf98zzzb_45 : sQ × Bool := ((109, .add (.int 5634) (.int 4), .int 64), true)
noncomputable def q_ma4o : sCut := ((fr 0 95 34 [(0, tr 75), (1, .int 90), (2, .int 3)] [], [fr 0 93 73 [(0, tr 75)] [], fr 0 60 30 [(0, tr 39), (1, .int 1)] [], fBot], 11), (fr 0 298 9 [(0, tr 219), (1, .arg 1308), (2, .int 5634)] [.arg 60000, .int 5634, .arg 1308, tr 219], [fr 0 297 75 [(0, tr 219), (1, .arg 1308), (5, .int 2)] [], fr 0 300 36 [(0, tr 219), (1, .arg 1308)] [], fBot], 11), [zf98zzzb_41, zf98zzzb_42, zf98zzzb_43, zf98zzzb_44, zf98zzzb_45, zf98zzzb_23, zf98zzzb_24, ((139, .add (.elem (.arg 64353) (.int 0)) (.add (.int 60) (.arg 60000)), .int 0), true), zf98zzzb_39, zf98zzzb_10, zf98zzzb_40, zf98zzzb_12, zf98zzzb_13, zf98zzzb_14, zf98zzzb_15, ((0, .arg 2816, .int 1), true), zf98zzzb_0, zf98zzzb_1, zf98zzzb_2, zf98zzzb_3, zf98zzzb_4, ((0, .arg 1698, .int 0), true), ((0, .arg 1300, .int 0), true), ((0, .arg 1302, .int 0), true), ((0, .arg 1430, .int 0), true), ((0, .arg 1318, .int 0), true), ((0, .arg 3232, .int 0), true), ((0, .arg 2050, .int 0), true), ((0, .arg 3264, .int 0), true), ((0, .arg 3296, .int 0), true), ((0, .arg 3328, .int 0), true), ((0, .arg 3168, .int 0), true), ((0, .arg 1858, .int 0), true), ((0, .arg 1890, .int 0), true), ((0, .arg 1922, .int 0), true), ((0, .arg 3008, .int 0), true), ((0, .arg 1954, .int 0), true), ((0, .arg 1986, .int 0), true), ((0, .arg 2018, .int 0), true), zf98zzzb_5, ((0, .arg 1702, .int 0), true), ((0, .arg 3360, .int 0), true), ((0, .arg 1350, .int 0), true), ((0, .arg 1826, .int 0), true), zf98zzzb_6, zf98zzzb_7, zf98zzzb_8, zf98zzzb_9, ((0, .arg 1730, .int 0), true)], i_bz)
noncomputable def w_ma4o : List (sCut × List (Nat × sT) × List (Nat × sT × List (sT × sT))) := [(q_mm5T, [], [(64321, .arg 64321, []), (64353, .arg 64353, [])])]
theorem k_ma4o : cbody kR [(zWP, c_fndl), (zWB, c_mmo)] (cpl1 zWB c_bn1 [q_mm5T]) (cpl2 zWB c_bn1 [q_mm5T]) (cleafB kR zWB c_bn1 w_ma4o) 700 false false q_ma4o.2.2.1 q_ma4o.2.2.2 (cst zWB c_bn1.2.2.1.1 q_ma4o.1) (cst zWB c_bn1.2.2.1.2 q_ma4o.2.1) = true := by decide +kernel
theorem t_ma4o {X : pX} {ρ0 : sR} (hv : vok X ρ0) : CUTOK X kR zWB c_bn1 13 ρ0 q_ma4o := CUTOK_AT (fun ρ k1 hF hI k4 => AT_of (q := q_ma4o) rfl rfl (SEM_runB kR_x kR_0 (Cs := [(zWP, c_fndl), (zWB, c_mmo)]) (fun C hC => by
    simp only [List.mem_cons, List.not_mem_nil, or_false] at hC
    rcases hC with hC | hC
    · rw [hC]; exact s_fndl
    · rw [hC]; exact s_mmo) c_bn1_f (Q := w_ma4o) hv 700 (b1 := false) (b2 := false) k_ma4o k1 hF hI k4 (fun p hp ρ3 m1 m2 m3 m4 m5 m6 => by
  rw [List.mem_singleton.mp hp] at m2 m3 m5 m6 ⊢
  have eD : ρ3.1 1308 = ρ.1 1308 := (m4.1 1308 (by decide) (by decide)).1.trans (k4.1 1308 (by decide) (by decide)).1.symm
  obtain ⟨d0, d4⟩ := d_r hF.1
  have hA : ∀ j, ρ3.2.2.2.1 64321 j = ρ.2.2.2.1 64321 j := fun j => by
    have hw := m6 (64321, .arg 64321, []) (List.mem_cons_self) j
    have hw : Value.long (ρ3.2.2.2.1 64321 j) = Value.long (ρ.2.2.2.1 64321 j) := hw
    exact Value.long.inj hw
  have hB : ∀ j, ρ3.2.2.2.1 64353 j = ρ.2.2.2.1 64353 j := fun j => by
    have hw := m6 (64353, .arg 64353, []) (List.mem_cons_of_mem _ (List.mem_cons_self)) j
    have hw : Value.long (ρ3.2.2.2.1 64353 j) = Value.long (ρ.2.2.2.1 64353 j) := hw
    exact Value.long.inj hw
  have h7 := k157.mp (hF.2 _ (List.mem_cons_of_mem _ (List.mem_cons_of_mem _ (List.mem_cons_of_mem _ (List.mem_cons_of_mem _ (List.mem_cons_of_mem _ (List.mem_cons_of_mem _ (List.mem_cons_of_mem _ (List.mem_cons_of_mem _ (List.mem_cons_of_mem _ (List.mem_cons_self)))))))))))
  have h8 := k158.mp (hF.2 _ (List.mem_cons_of_mem _ (List.mem_cons_of_mem _ (List.mem_cons_of_mem _ (List.mem_cons_of_mem _ (List.mem_cons_of_mem _ (List.mem_cons_of_mem _ (List.mem_cons_of_mem _ (List.mem_cons_of_mem _ (List.mem_cons_of_mem _ (List.mem_cons_of_mem _ (List.mem_cons_self))))))))))))
  have h5 := k155.mp (hF.2 _ (List.mem_cons_of_mem _ (List.mem_cons_of_mem _ (List.mem_cons_of_mem _ (List.mem_cons_of_mem _ (List.mem_cons_of_mem _ (List.mem_cons_of_mem _ (List.mem_cons_of_mem _ (List.mem_cons_of_mem _ (List.mem_cons_of_mem _ (List.mem_cons_of_mem _ (List.mem_cons_of_mem _ (List.mem_cons_self)))))))))))))
  obtain ⟨v0, v4⟩ := ev_m4 (m := 60) (by decide) (h5 60 (by decide))
  have en : ρ.1 60000 = (ρ.2.2.2.1 64353 60).toInt32 := of_decide_eq_true (hF.2 _ (List.mem_cons_of_mem _ (List.mem_cons_of_mem _ (List.mem_cons_of_mem _ (List.mem_cons_of_mem _ (List.mem_cons_of_mem _ (List.mem_cons_of_mem _ (List.mem_cons_of_mem _ (List.mem_cons_of_mem _ (List.mem_cons_self))))))))))
  have hc : (0 : Int) = amcode (ρ.2.2.2.1 64353) 60 (ρ.1 60000).toInt.toNat := of_decide_eq_true (hF.2 _ (List.mem_cons_of_mem _ (List.mem_cons_of_mem _ (List.mem_cons_of_mem _ (List.mem_cons_of_mem _ (List.mem_cons_of_mem _ (List.mem_cons_of_mem _ (List.mem_cons_of_mem _ (List.mem_cons_self)))))))))
  rw [en, mv_l v0 (by omega)] at hc
  have eA : ρ3.2.2.2.1 64321 = ρ.2.2.2.1 64321 := funext hA
  have eB : ρ3.2.2.2.1 64353 = ρ.2.2.2.1 64353 := funext hB
  have x7 : sc X ρ3 (157, .add (.elem (.arg 64321) (.int 0)) (.add (.elem (.arg 64353) (.int 0)) (.arg 1308)), .int 8) = true := k157.mpr (by rw [eA, eB, eD]; exact h7)
  have x8 : sc X ρ3 (158, .elem (.arg 64353) (.int 0), .int 5) = true := k158.mpr (by rw [eB]; exact ampm_t (K := 4) (m := 60) rfl h8 hc.symm)
  have x5 : sc X ρ3 (155, .elem (.arg 64353) (.int 0), .int 0) = true := k155.mpr (by rw [eB]; exact h5)
  have z1 : sc X ρ3 (6, .elem (.arg 64321) (.int 1), .long 0) = true := decide_eq_true (show ρ3.2.2.2.1 64321 1 = 0 by
    rw [hA]
    exact of_decide_eq_true (hF.2 _ (List.mem_cons_of_mem _ (List.mem_cons_of_mem _ (List.mem_cons_of_mem _ (List.mem_cons_of_mem _ (List.mem_cons_of_mem _ (List.mem_cons_of_mem _ (List.mem_cons_of_mem _ (List.mem_cons_of_mem _ (List.mem_cons_of_mem _ (List.mem_cons_of_mem _ (List.mem_cons_of_mem _ (List.mem_cons_of_mem _ (List.mem_cons_self)))))))))))))))
  have z2 : sc X ρ3 (6, .elem (.arg 64353) (.int 114), .long 0) = true := decide_eq_true (show ρ3.2.2.2.1 64353 114 = 0 by
    rw [hB]
    exact of_decide_eq_true (hF.2 _ (List.mem_cons_of_mem _ (List.mem_cons_of_mem _ (List.mem_cons_of_mem _ (List.mem_cons_of_mem _ (List.mem_cons_of_mem _ (List.mem_cons_of_mem _ (List.mem_cons_of_mem _ (List.mem_cons_of_mem _ (List.mem_cons_of_mem _ (List.mem_cons_of_mem _ (List.mem_cons_of_mem _ (List.mem_cons_of_mem _ (List.mem_cons_of_mem _ (List.mem_cons_self))))))))))))))))
  have z3 : sc X ρ3 (6, .elem (.arg 64353) (.int 123), .long 0) = true := decide_eq_true (show ρ3.2.2.2.1 64353 123 = 0 by
    rw [hB]
    exact of_decide_eq_true (hF.2 _ (List.mem_cons_of_mem _ (List.mem_cons_of_mem _ (List.mem_cons_of_mem _ (List.mem_cons_of_mem _ (List.mem_cons_of_mem _ (List.mem_cons_of_mem _ (List.mem_cons_of_mem _ (List.mem_cons_of_mem _ (List.mem_cons_of_mem _ (List.mem_cons_of_mem _ (List.mem_cons_of_mem _ (List.mem_cons_of_mem _ (List.mem_cons_of_mem _ (List.mem_cons_of_mem _ (List.mem_cons_self)))))))))))))))))
  exact t_mm5 hv ρ3 m1 ⟨m2.1, fcn (x7) (fcn (x8) (fcn (x5) (fcn (z1) (fcn (z2) (fcn (z3) (m2.2))))))⟩ m3 m4)))
noncomputable def q_ma4n : sCut := ((fr 0 95 34 [(0, tr 75), (1, .int 90), (2, .int 3)] [], [fr 0 93 73 [(0, tr 75)] [], fr 0 60 30 [(0, tr 39), (1, .int 1)] [], fBot], 11), (fr 0 298 9 [(0, tr 219), (1, .arg 1308), (2, .int 5634)] [.arg 60000, .int 5634, .arg 1308, tr 219], [fr 0 297 75 [(0, tr 219), (1, .arg 1308), (5, .int 2)] [], fr 0 300 36 [(0, tr 219), (1, .arg 1308)] [], fBot], 11), [zf98zzzb_41, zf98zzzb_42, zf98zzzb_43, zf98zzzb_44, zf98zzzb_45, zf98zzzb_23, zf98zzzb_24, ((139, .add (.elem (.arg 64353) (.int 0)) (.add (.int 60) (.arg 60000)), .int 100925505), true), zf98zzzb_39, zf98zzzb_10, zf98zzzb_40, zf98zzzb_12, zf98zzzb_13, zf98zzzb_14, zf98zzzb_15, ((0, .arg 2816, .int 1), true), zf98zzzb_0, zf98zzzb_1, zf98zzzb_2, zf98zzzb_3, zf98zzzb_4, ((0, .arg 1698, .int 0), true), ((0, .arg 1300, .int 0), true), ((0, .arg 1302, .int 0), true), ((0, .arg 1430, .int 0), true), ((0, .arg 1318, .int 0), true), ((0, .arg 3232, .int 0), true), ((0, .arg 2050, .int 0), true), ((0, .arg 3264, .int 0), true), ((0, .arg 3296, .int 0), true), ((0, .arg 3328, .int 0), true), ((0, .arg 3168, .int 0), true), ((0, .arg 1858, .int 0), true), ((0, .arg 1890, .int 0), true), ((0, .arg 1922, .int 0), true), ((0, .arg 3008, .int 0), true), ((0, .arg 1954, .int 0), true), ((0, .arg 1986, .int 0), true), ((0, .arg 2018, .int 0), true), zf98zzzb_5, ((0, .arg 1702, .int 0), true), ((0, .arg 3360, .int 0), true), ((0, .arg 1350, .int 0), true), ((0, .arg 1826, .int 0), true), zf98zzzb_6, zf98zzzb_7, zf98zzzb_8, zf98zzzb_9, ((0, .arg 1730, .int 0), true)], i_bz)
noncomputable def w_ma4n : List (sCut × List (Nat × sT) × List (Nat × sT × List (sT × sT))) := [(q_mm5T, [], [(64321, .arg 64321, []), (64353, .arg 64353, [(.int 64, .long 0), (.int 63, .long 0), (.int 62, .long 0), (.int 61, .long 0), (.int 60, .long 0)])])]
theorem k_ma4n : cbody kR [(zWP, c_fndl), (zWB, c_mmn)] (cpl1 zWB c_bn1 [q_mm5T]) (cpl2 zWB c_bn1 [q_mm5T]) (cleafB kR zWB c_bn1 w_ma4n) 700 false false q_ma4n.2.2.1 q_ma4n.2.2.2 (cst zWB c_bn1.2.2.1.1 q_ma4n.1) (cst zWB c_bn1.2.2.1.2 q_ma4n.2.1) = true := by decide +kernel
theorem t_ma4n {X : pX} {ρ0 : sR} (hv : vok X ρ0) : CUTOK X kR zWB c_bn1 13 ρ0 q_ma4n := CUTOK_AT (fun ρ k1 hF hI k4 => AT_of (q := q_ma4n) rfl rfl (SEM_runB kR_x kR_0 (Cs := [(zWP, c_fndl), (zWB, c_mmn)]) (fun C hC => by
    simp only [List.mem_cons, List.not_mem_nil, or_false] at hC
    rcases hC with hC | hC
    · rw [hC]; exact s_fndl
    · rw [hC]; exact s_mmn) c_bn1_f (Q := w_ma4n) hv 700 (b1 := false) (b2 := false) k_ma4n k1 hF hI k4 (fun p hp ρ3 m1 m2 m3 m4 m5 m6 => by
  rw [List.mem_singleton.mp hp] at m2 m3 m5 m6 ⊢
  have eD : ρ3.1 1308 = ρ.1 1308 := (m4.1 1308 (by decide) (by decide)).1.trans (k4.1 1308 (by decide) (by decide)).1.symm
  obtain ⟨d0, d4⟩ := d_r hF.1
  have hA : ∀ j, ρ3.2.2.2.1 64321 j = ρ.2.2.2.1 64321 j := fun j => by
    have hw := m6 (64321, .arg 64321, []) (List.mem_cons_self) j
    have hw : Value.long (ρ3.2.2.2.1 64321 j) = Value.long (ρ.2.2.2.1 64321 j) := hw
    exact Value.long.inj hw
  obtain ⟨hBn, hBf⟩ := fiv_w (f := ρ.2.2.2.1 64353) (g := ρ3.2.2.2.1 64353) (m := 60) (d := (ρ.1 1308).toInt) (v0 := 0) (v1 := 0) (v2 := 0) (v3 := 0) (v4 := 0) (fun j => m6 (64353, .arg 64353, [(.int 64, .long 0), (.int 63, .long 0), (.int 62, .long 0), (.int 61, .long 0), (.int 60, .long 0)]) (List.mem_cons_of_mem _ (List.mem_cons_self)) j) (amw_60 d0 d4 (i := 0) (by decide)) (amw_60 d0 d4 (i := 1) (by decide)) (amw_60 d0 d4 (i := 2) (by decide)) (amw_60 d0 d4 (i := 3) (by decide)) (amw_60 d0 d4 (i := 4) (by decide))
  have h7 := k157.mp (hF.2 _ (List.mem_cons_of_mem _ (List.mem_cons_of_mem _ (List.mem_cons_of_mem _ (List.mem_cons_of_mem _ (List.mem_cons_of_mem _ (List.mem_cons_of_mem _ (List.mem_cons_of_mem _ (List.mem_cons_of_mem _ (List.mem_cons_of_mem _ (List.mem_cons_self)))))))))))
  have h8 := k158.mp (hF.2 _ (List.mem_cons_of_mem _ (List.mem_cons_of_mem _ (List.mem_cons_of_mem _ (List.mem_cons_of_mem _ (List.mem_cons_of_mem _ (List.mem_cons_of_mem _ (List.mem_cons_of_mem _ (List.mem_cons_of_mem _ (List.mem_cons_of_mem _ (List.mem_cons_of_mem _ (List.mem_cons_self))))))))))))
  have h5 := k155.mp (hF.2 _ (List.mem_cons_of_mem _ (List.mem_cons_of_mem _ (List.mem_cons_of_mem _ (List.mem_cons_of_mem _ (List.mem_cons_of_mem _ (List.mem_cons_of_mem _ (List.mem_cons_of_mem _ (List.mem_cons_of_mem _ (List.mem_cons_of_mem _ (List.mem_cons_of_mem _ (List.mem_cons_of_mem _ (List.mem_cons_self)))))))))))))
  obtain ⟨v0, v4⟩ := ev_m4 (m := 60) (by decide) (h5 60 (by decide))
  have en : ρ.1 60000 = (ρ.2.2.2.1 64353 60).toInt32 := of_decide_eq_true (hF.2 _ (List.mem_cons_of_mem _ (List.mem_cons_of_mem _ (List.mem_cons_of_mem _ (List.mem_cons_of_mem _ (List.mem_cons_of_mem _ (List.mem_cons_of_mem _ (List.mem_cons_of_mem _ (List.mem_cons_of_mem _ (List.mem_cons_self))))))))))
  have hc : (100925505 : Int) = amcode (ρ.2.2.2.1 64353) 60 (ρ.1 60000).toInt.toNat := of_decide_eq_true (hF.2 _ (List.mem_cons_of_mem _ (List.mem_cons_of_mem _ (List.mem_cons_of_mem _ (List.mem_cons_of_mem _ (List.mem_cons_of_mem _ (List.mem_cons_of_mem _ (List.mem_cons_of_mem _ (List.mem_cons_self)))))))))
  rw [en, mv_l v0 (by omega)] at hc
  have hm : 60 ∈ amps := by decide
  have hn : ¬ amcode (ρ.2.2.2.1 64353) 60 (ρ.2.2.2.1 64353 60).toInt.toNat = 0 := by rw [← hc]; decide
  have eA : ρ3.2.2.2.1 64321 = ρ.2.2.2.1 64321 := funext hA
  have x7 : sc X ρ3 (157, .add (.elem (.arg 64321) (.int 0)) (.add (.elem (.arg 64353) (.int 0)) (.arg 1308)), .int 8) = true := k157.mpr (by rw [eA, eD]; exact amn_m d0 d4 hm h7 h5 hn (fun j _ hj => hBn j hj) hBf)
  have x8 : sc X ρ3 (158, .elem (.arg 64353) (.int 0), .int 5) = true := k158.mpr (ampm_t (K := 4) (m := 60) rfl (fun x hx => by
    have hx2 : x ∈ amps := of_decide_eq_true (List.all_eq_true.mp ampm_i x (List.mem_of_mem_take hx))
    by_cases e : x = 60
    · rw [e]; exact amf_0 d0 d4 hm hBf
    · rw [amo_c hm hx2 e h5 (fun j _ hj => hBn j hj)]; exact h8 x hx) (amf_0 d0 d4 hm hBf))
  have x5 : sc X ρ3 (155, .elem (.arg 64353) (.int 0), .int 0) = true := k155.mpr (fun j hj => by
    by_cases hi : 60 ≤ j ∧ j < 60 + 5
    · rw [hBf j hi.1 hi.2]; exact evf_k d0 d4 hj
    · rw [hBn j hi]; exact h5 j hj)
  have z1 : sc X ρ3 (6, .elem (.arg 64321) (.int 1), .long 0) = true := decide_eq_true (show ρ3.2.2.2.1 64321 1 = 0 by
    rw [hA]
    exact of_decide_eq_true (hF.2 _ (List.mem_cons_of_mem _ (List.mem_cons_of_mem _ (List.mem_cons_of_mem _ (List.mem_cons_of_mem _ (List.mem_cons_of_mem _ (List.mem_cons_of_mem _ (List.mem_cons_of_mem _ (List.mem_cons_of_mem _ (List.mem_cons_of_mem _ (List.mem_cons_of_mem _ (List.mem_cons_of_mem _ (List.mem_cons_of_mem _ (List.mem_cons_self)))))))))))))))
  have z2 : sc X ρ3 (6, .elem (.arg 64353) (.int 114), .long 0) = true := decide_eq_true (show ρ3.2.2.2.1 64353 114 = 0 by
    rw [hBn 114 (by decide)]
    exact of_decide_eq_true (hF.2 _ (List.mem_cons_of_mem _ (List.mem_cons_of_mem _ (List.mem_cons_of_mem _ (List.mem_cons_of_mem _ (List.mem_cons_of_mem _ (List.mem_cons_of_mem _ (List.mem_cons_of_mem _ (List.mem_cons_of_mem _ (List.mem_cons_of_mem _ (List.mem_cons_of_mem _ (List.mem_cons_of_mem _ (List.mem_cons_of_mem _ (List.mem_cons_of_mem _ (List.mem_cons_self))))))))))))))))
  have z3 : sc X ρ3 (6, .elem (.arg 64353) (.int 123), .long 0) = true := decide_eq_true (show ρ3.2.2.2.1 64353 123 = 0 by
    rw [hBn 123 (by decide)]
    exact of_decide_eq_true (hF.2 _ (List.mem_cons_of_mem _ (List.mem_cons_of_mem _ (List.mem_cons_of_mem _ (List.mem_cons_of_mem _ (List.mem_cons_of_mem _ (List.mem_cons_of_mem _ (List.mem_cons_of_mem _ (List.mem_cons_of_mem _ (List.mem_cons_of_mem _ (List.mem_cons_of_mem _ (List.mem_cons_of_mem _ (List.mem_cons_of_mem _ (List.mem_cons_of_mem _ (List.mem_cons_of_mem _ (List.mem_cons_self)))))))))))))))))
  exact t_mm5 hv ρ3 m1 ⟨m2.1, fcn (x7) (fcn (x8) (fcn (x5) (fcn (z1) (fcn (z2) (fcn (z3) (m2.2))))))⟩ m3 m4)))
noncomputable def q_ma4l : sCut := ((fr 0 95 34 [(0, tr 75), (1, .int 90), (2, .int 3)] [], [fr 0 93 73 [(0, tr 75)] [], fr 0 60 30 [(0, tr 39), (1, .int 1)] [], fBot], 11), (fr 0 298 9 [(0, tr 219), (1, .arg 1308), (2, .int 5634)] [.arg 60000, .int 5634, .arg 1308, tr 219], [fr 0 297 75 [(0, tr 219), (1, .arg 1308), (5, .int 2)] [], fr 0 300 36 [(0, tr 219), (1, .arg 1308)] [], fBot], 11), [zf98zzzb_41, zf98zzzb_42, zf98zzzb_43, zf98zzzb_44, zf98zzzb_45, zf98zzzb_23, zf98zzzb_24, ((139, .add (.elem (.arg 64353) (.int 0)) (.add (.int 60) (.arg 60000)), .int 100925506), true), zf98zzzb_39, zf98zzzb_10, zf98zzzb_40, zf98zzzb_12, zf98zzzb_13, zf98zzzb_14, zf98zzzb_15, ((0, .arg 2816, .int 1), true), zf98zzzb_0, zf98zzzb_1, zf98zzzb_2, zf98zzzb_3, zf98zzzb_4, ((0, .arg 1698, .int 0), true), ((0, .arg 1300, .int 0), true), ((0, .arg 1302, .int 0), true), ((0, .arg 1430, .int 0), true), ((0, .arg 1318, .int 0), true), ((0, .arg 3232, .int 0), true), ((0, .arg 2050, .int 0), true), ((0, .arg 3264, .int 0), true), ((0, .arg 3296, .int 0), true), ((0, .arg 3328, .int 0), true), ((0, .arg 3168, .int 0), true), ((0, .arg 1858, .int 0), true), ((0, .arg 1890, .int 0), true), ((0, .arg 1922, .int 0), true), ((0, .arg 3008, .int 0), true), ((0, .arg 1954, .int 0), true), ((0, .arg 1986, .int 0), true), ((0, .arg 2018, .int 0), true), zf98zzzb_5, ((0, .arg 1702, .int 0), true), ((0, .arg 3360, .int 0), true), ((0, .arg 1350, .int 0), true), ((0, .arg 1826, .int 0), true), zf98zzzb_6, zf98zzzb_7, zf98zzzb_8, zf98zzzb_9, ((0, .arg 1730, .int 0), true)], i_bz)
noncomputable def w_ma4l : List (sCut × List (Nat × sT) × List (Nat × sT × List (sT × sT))) := [(q_mm5T, [], [(64321, .arg 64321, []), (64353, .arg 64353, [(.int 64, .long 0), (.int 63, .long 0), (.int 62, .long 0), (.int 61, .long 0), (.int 60, .long 0)])])]
theorem k_ma4l : cbody kR [(zWP, c_fndl), (zWB, c_mml)] (cpl1 zWB c_bn1 [q_mm5T]) (cpl2 zWB c_bn1 [q_mm5T]) (cleafB kR zWB c_bn1 w_ma4l) 700 false false q_ma4l.2.2.1 q_ma4l.2.2.2 (cst zWB c_bn1.2.2.1.1 q_ma4l.1) (cst zWB c_bn1.2.2.1.2 q_ma4l.2.1) = true := by decide +kernel
theorem t_ma4l {X : pX} {ρ0 : sR} (hv : vok X ρ0) : CUTOK X kR zWB c_bn1 13 ρ0 q_ma4l := CUTOK_AT (fun ρ k1 hF hI k4 => AT_of (q := q_ma4l) rfl rfl (SEM_runB kR_x kR_0 (Cs := [(zWP, c_fndl), (zWB, c_mml)]) (fun C hC => by
    simp only [List.mem_cons, List.not_mem_nil, or_false] at hC
    rcases hC with hC | hC
    · rw [hC]; exact s_fndl
    · rw [hC]; exact s_mml) c_bn1_f (Q := w_ma4l) hv 700 (b1 := false) (b2 := false) k_ma4l k1 hF hI k4 (fun p hp ρ3 m1 m2 m3 m4 m5 m6 => by
  rw [List.mem_singleton.mp hp] at m2 m3 m5 m6 ⊢
  have eD : ρ3.1 1308 = ρ.1 1308 := (m4.1 1308 (by decide) (by decide)).1.trans (k4.1 1308 (by decide) (by decide)).1.symm
  obtain ⟨d0, d4⟩ := d_r hF.1
  have hA : ∀ j, ρ3.2.2.2.1 64321 j = ρ.2.2.2.1 64321 j := fun j => by
    have hw := m6 (64321, .arg 64321, []) (List.mem_cons_self) j
    have hw : Value.long (ρ3.2.2.2.1 64321 j) = Value.long (ρ.2.2.2.1 64321 j) := hw
    exact Value.long.inj hw
  obtain ⟨hBn, hBf⟩ := fiv_w (f := ρ.2.2.2.1 64353) (g := ρ3.2.2.2.1 64353) (m := 60) (d := (ρ.1 1308).toInt) (v0 := 0) (v1 := 0) (v2 := 0) (v3 := 0) (v4 := 0) (fun j => m6 (64353, .arg 64353, [(.int 64, .long 0), (.int 63, .long 0), (.int 62, .long 0), (.int 61, .long 0), (.int 60, .long 0)]) (List.mem_cons_of_mem _ (List.mem_cons_self)) j) (amw_60 d0 d4 (i := 0) (by decide)) (amw_60 d0 d4 (i := 1) (by decide)) (amw_60 d0 d4 (i := 2) (by decide)) (amw_60 d0 d4 (i := 3) (by decide)) (amw_60 d0 d4 (i := 4) (by decide))
  have h7 := k157.mp (hF.2 _ (List.mem_cons_of_mem _ (List.mem_cons_of_mem _ (List.mem_cons_of_mem _ (List.mem_cons_of_mem _ (List.mem_cons_of_mem _ (List.mem_cons_of_mem _ (List.mem_cons_of_mem _ (List.mem_cons_of_mem _ (List.mem_cons_of_mem _ (List.mem_cons_self)))))))))))
  have h8 := k158.mp (hF.2 _ (List.mem_cons_of_mem _ (List.mem_cons_of_mem _ (List.mem_cons_of_mem _ (List.mem_cons_of_mem _ (List.mem_cons_of_mem _ (List.mem_cons_of_mem _ (List.mem_cons_of_mem _ (List.mem_cons_of_mem _ (List.mem_cons_of_mem _ (List.mem_cons_of_mem _ (List.mem_cons_self))))))))))))
  have h5 := k155.mp (hF.2 _ (List.mem_cons_of_mem _ (List.mem_cons_of_mem _ (List.mem_cons_of_mem _ (List.mem_cons_of_mem _ (List.mem_cons_of_mem _ (List.mem_cons_of_mem _ (List.mem_cons_of_mem _ (List.mem_cons_of_mem _ (List.mem_cons_of_mem _ (List.mem_cons_of_mem _ (List.mem_cons_of_mem _ (List.mem_cons_self)))))))))))))
  obtain ⟨v0, v4⟩ := ev_m4 (m := 60) (by decide) (h5 60 (by decide))
  have en : ρ.1 60000 = (ρ.2.2.2.1 64353 60).toInt32 := of_decide_eq_true (hF.2 _ (List.mem_cons_of_mem _ (List.mem_cons_of_mem _ (List.mem_cons_of_mem _ (List.mem_cons_of_mem _ (List.mem_cons_of_mem _ (List.mem_cons_of_mem _ (List.mem_cons_of_mem _ (List.mem_cons_of_mem _ (List.mem_cons_self))))))))))
  have hc : (100925506 : Int) = amcode (ρ.2.2.2.1 64353) 60 (ρ.1 60000).toInt.toNat := of_decide_eq_true (hF.2 _ (List.mem_cons_of_mem _ (List.mem_cons_of_mem _ (List.mem_cons_of_mem _ (List.mem_cons_of_mem _ (List.mem_cons_of_mem _ (List.mem_cons_of_mem _ (List.mem_cons_of_mem _ (List.mem_cons_self)))))))))
  rw [en, mv_l v0 (by omega)] at hc
  have hm : 60 ∈ amps := by decide
  have hn : ¬ amcode (ρ.2.2.2.1 64353) 60 (ρ.2.2.2.1 64353 60).toInt.toNat = 0 := by rw [← hc]; decide
  have eA : ρ3.2.2.2.1 64321 = ρ.2.2.2.1 64321 := funext hA
  have x7 : sc X ρ3 (157, .add (.elem (.arg 64321) (.int 0)) (.add (.elem (.arg 64353) (.int 0)) (.arg 1308)), .int 8) = true := k157.mpr (by rw [eA, eD]; exact amn_m d0 d4 hm h7 h5 hn (fun j _ hj => hBn j hj) hBf)
  have x8 : sc X ρ3 (158, .elem (.arg 64353) (.int 0), .int 5) = true := k158.mpr (ampm_t (K := 4) (m := 60) rfl (fun x hx => by
    have hx2 : x ∈ amps := of_decide_eq_true (List.all_eq_true.mp ampm_i x (List.mem_of_mem_take hx))
    by_cases e : x = 60
    · rw [e]; exact amf_0 d0 d4 hm hBf
    · rw [amo_c hm hx2 e h5 (fun j _ hj => hBn j hj)]; exact h8 x hx) (amf_0 d0 d4 hm hBf))
  have x5 : sc X ρ3 (155, .elem (.arg 64353) (.int 0), .int 0) = true := k155.mpr (fun j hj => by
    by_cases hi : 60 ≤ j ∧ j < 60 + 5
    · rw [hBf j hi.1 hi.2]; exact evf_k d0 d4 hj
    · rw [hBn j hi]; exact h5 j hj)
  have z1 : sc X ρ3 (6, .elem (.arg 64321) (.int 1), .long 0) = true := decide_eq_true (show ρ3.2.2.2.1 64321 1 = 0 by
    rw [hA]
    exact of_decide_eq_true (hF.2 _ (List.mem_cons_of_mem _ (List.mem_cons_of_mem _ (List.mem_cons_of_mem _ (List.mem_cons_of_mem _ (List.mem_cons_of_mem _ (List.mem_cons_of_mem _ (List.mem_cons_of_mem _ (List.mem_cons_of_mem _ (List.mem_cons_of_mem _ (List.mem_cons_of_mem _ (List.mem_cons_of_mem _ (List.mem_cons_of_mem _ (List.mem_cons_self)))))))))))))))
  have z2 : sc X ρ3 (6, .elem (.arg 64353) (.int 114), .long 0) = true := decide_eq_true (show ρ3.2.2.2.1 64353 114 = 0 by
    rw [hBn 114 (by decide)]
    exact of_decide_eq_true (hF.2 _ (List.mem_cons_of_mem _ (List.mem_cons_of_mem _ (List.mem_cons_of_mem _ (List.mem_cons_of_mem _ (List.mem_cons_of_mem _ (List.mem_cons_of_mem _ (List.mem_cons_of_mem _ (List.mem_cons_of_mem _ (List.mem_cons_of_mem _ (List.mem_cons_of_mem _ (List.mem_cons_of_mem _ (List.mem_cons_of_mem _ (List.mem_cons_of_mem _ (List.mem_cons_self))))))))))))))))
  have z3 : sc X ρ3 (6, .elem (.arg 64353) (.int 123), .long 0) = true := decide_eq_true (show ρ3.2.2.2.1 64353 123 = 0 by
    rw [hBn 123 (by decide)]
    exact of_decide_eq_true (hF.2 _ (List.mem_cons_of_mem _ (List.mem_cons_of_mem _ (List.mem_cons_of_mem _ (List.mem_cons_of_mem _ (List.mem_cons_of_mem _ (List.mem_cons_of_mem _ (List.mem_cons_of_mem _ (List.mem_cons_of_mem _ (List.mem_cons_of_mem _ (List.mem_cons_of_mem _ (List.mem_cons_of_mem _ (List.mem_cons_of_mem _ (List.mem_cons_of_mem _ (List.mem_cons_of_mem _ (List.mem_cons_self)))))))))))))))))
  exact t_mm5 hv ρ3 m1 ⟨m2.1, fcn (x7) (fcn (x8) (fcn (x5) (fcn (z1) (fcn (z2) (fcn (z3) (m2.2))))))⟩ m3 m4)))
theorem t_ma4 {X : pX} {ρ0 : sR} (hv : vok X ρ0) : CUTOK X kR zWB c_bn1 13 ρ0 q_ma4 := fun ρ k1 hF hI k4 => by
  have h5 := k155.mp (hF.2 _ (List.mem_cons_of_mem _ (List.mem_cons_of_mem _ (List.mem_cons_of_mem _ (List.mem_cons_self)))))
  obtain ⟨v0, v4⟩ := ev_m4 (m := 60) (by decide) (h5 60 (by decide))
  have f0 := s9_n (X := X) (ρ := ρ) (ix := 5634) (s := 0) (p := 60) (by decide +kernel)
  have f1 := s9_n (X := X) (ρ := ρ) (ix := 5634) (s := 1) (p := 61) (by decide +kernel)
  have f2 := s9_n (X := X) (ρ := ρ) (ix := 5634) (s := 2) (p := 62) (by decide +kernel)
  have f3 := s9_n (X := X) (ρ := ρ) (ix := 5634) (s := 3) (p := 63) (by decide +kernel)
  have f4 := s9_n (X := X) (ρ := ρ) (ix := 5634) (s := 4) (p := 64) (by decide +kernel)
  have en : ρ.1 60000 = (ρ.2.2.2.1 64353 60).toInt32 := of_decide_eq_true (hF.2 _ (List.mem_cons_self))
  have ev : (ρ.1 60000).toInt = (ρ.2.2.2.1 64353 60).toInt := by rw [en]; exact mv_l v0 (by omega)
  rcases am_3 (g := ρ.2.2.2.1 64353) (m := 60) (n := (ρ.1 60000).toInt.toNat) with h | h | h
  · exact t_ma4o hv ρ k1 ⟨hF.1, fcn (f0) (fcn (f1) (fcn (f2) (fcn (f3) (fcn (f4) (fcn (di_lf (x := ρ.1 60000) (y := 0) (by rw [ev]; show (0 : Int) ≤ _; exact v0)) (fcn (di_lf (x := 4) (y := ρ.1 60000) (by rw [ev]; show _ ≤ (4 : Int); exact v4)) (fcn (decide_eq_true (show (0 : Int) = amcode (ρ.2.2.2.1 64353) 60 (ρ.1 60000).toInt.toNat from h.symm)) (hF.2))))))))⟩ hI k4
  · exact t_ma4n hv ρ k1 ⟨hF.1, fcn (f0) (fcn (f1) (fcn (f2) (fcn (f3) (fcn (f4) (fcn (di_lf (x := ρ.1 60000) (y := 0) (by rw [ev]; show (0 : Int) ≤ _; exact v0)) (fcn (di_lf (x := 4) (y := ρ.1 60000) (by rw [ev]; show _ ≤ (4 : Int); exact v4)) (fcn (decide_eq_true (show (100925505 : Int) = amcode (ρ.2.2.2.1 64353) 60 (ρ.1 60000).toInt.toNat from h.symm)) (hF.2))))))))⟩ hI k4
  · exact t_ma4l hv ρ k1 ⟨hF.1, fcn (f0) (fcn (f1) (fcn (f2) (fcn (f3) (fcn (f4) (fcn (di_lf (x := ρ.1 60000) (y := 0) (by rw [ev]; show (0 : Int) ≤ _; exact v0)) (fcn (di_lf (x := 4) (y := ρ.1 60000) (by rw [ev]; show _ ≤ (4 : Int); exact v4)) (fcn (decide_eq_true (show (100925506 : Int) = amcode (ρ.2.2.2.1 64353) 60 (ρ.1 60000).toInt.toNat from h.symm)) (hF.2))))))))⟩ hI k4
noncomputable def q_mm4 : sCut := ((fr 0 95 34 [(0, tr 75), (1, .int 90), (2, .int 3)] [], [fr 0 93 73 [(0, tr 75)] [], fr 0 60 30 [(0, tr 39), (1, .int 1)] [], fBot], 11), (fr 0 297 81 [(0, tr 219), (1, .arg 1308), (5, .int 1)] [], [fr 0 300 36 [(0, tr 219), (1, .arg 1308)] [], fBot], 12), [zf98zzzb_10, zf98zzzb_40, zf98zzzb_12, zf98zzzb_13, zf98zzzb_14, zf98zzzb_15, ((0, .arg 2816, .int 1), true), zf98zzzb_0, zf98zzzb_1, zf98zzzb_2, zf98zzzb_3, zf98zzzb_4, ((0, .arg 1698, .int 0), true), ((0, .arg 1300, .int 0), true), ((0, .arg 1302, .int 0), true), ((0, .arg 1430, .int 0), true), ((0, .arg 1318, .int 0), true), ((0, .arg 3232, .int 0), true), ((0, .arg 2050, .int 0), true), ((0, .arg 3264, .int 0), true), ((0, .arg 3296, .int 0), true), ((0, .arg 3328, .int 0), true), ((0, .arg 3168, .int 0), true), ((0, .arg 1858, .int 0), true), ((0, .arg 1890, .int 0), true), ((0, .arg 1922, .int 0), true), ((0, .arg 3008, .int 0), true), ((0, .arg 1954, .int 0), true), ((0, .arg 1986, .int 0), true), ((0, .arg 2018, .int 0), true), zf98zzzb_5, ((0, .arg 1702, .int 0), true), ((0, .arg 3360, .int 0), true), ((0, .arg 1350, .int 0), true), ((0, .arg 1826, .int 0), true), zf98zzzb_6, zf98zzzb_7, zf98zzzb_8, zf98zzzb_9, ((0, .arg 1730, .int 0), true)], i_bz)
noncomputable def q_mm4g : sCut := ((fr 0 95 34 [(0, tr 75), (1, .int 90), (2, .int 3)] [], [fr 0 93 73 [(0, tr 75)] [], fr 0 60 30 [(0, tr 39), (1, .int 1)] [], fBot], 11), (fr 0 297 81 [(0, tr 219), (1, .arg 1308), (5, .int 1)] [], [fr 0 300 36 [(0, tr 219), (1, .arg 1308)] [], fBot], 12), [zf98zzzb_41, zf98zzzb_10, zf98zzzb_40, zf98zzzb_12, zf98zzzb_13, zf98zzzb_14, zf98zzzb_15, ((0, .arg 2816, .int 1), true), zf98zzzb_0, zf98zzzb_1, zf98zzzb_2, zf98zzzb_3, zf98zzzb_4, ((0, .arg 1698, .int 0), true), ((0, .arg 1300, .int 0), true), ((0, .arg 1302, .int 0), true), ((0, .arg 1430, .int 0), true), ((0, .arg 1318, .int 0), true), ((0, .arg 3232, .int 0), true), ((0, .arg 2050, .int 0), true), ((0, .arg 3264, .int 0), true), ((0, .arg 3296, .int 0), true), ((0, .arg 3328, .int 0), true), ((0, .arg 3168, .int 0), true), ((0, .arg 1858, .int 0), true), ((0, .arg 1890, .int 0), true), ((0, .arg 1922, .int 0), true), ((0, .arg 3008, .int 0), true), ((0, .arg 1954, .int 0), true), ((0, .arg 1986, .int 0), true), ((0, .arg 2018, .int 0), true), zf98zzzb_5, ((0, .arg 1702, .int 0), true), ((0, .arg 3360, .int 0), true), ((0, .arg 1350, .int 0), true), ((0, .arg 1826, .int 0), true), zf98zzzb_6, zf98zzzb_7, zf98zzzb_8, zf98zzzb_9, ((0, .arg 1730, .int 0), true)], i_bz)
theorem k_mm4g : cbody kR [(zWP, c_fndl)] (cpl1 zWB c_bn1 [q_ma4]) (cpl2 zWB c_bn1 [q_ma4]) (cleaf kR zWB c_bn1 [q_ma4]) 200 false true q_mm4g.2.2.1 q_mm4g.2.2.2 (cst zWB c_bn1.2.2.1.1 q_mm4g.1) (cst zWB c_bn1.2.2.1.2 q_mm4g.2.1) = true := by decide +kernel
theorem t_mm4g {X : pX} {ρ0 : sR} (hv : vok X ρ0) : CUTOK X kR zWB c_bn1 13 ρ0 q_mm4g := CUT_run kR_x kR_0 (Cs := [(zWP, c_fndl)]) (fun C hC => by rw [List.mem_singleton.mp hC]; exact s_fndl) c_bn1_f (Q := [q_ma4]) hv (fun q hq => by
    simp only [List.mem_cons, List.not_mem_nil, or_false] at hq
    rw [hq]; exact t_ma4 hv) 200 (b1 := false) (b2 := true) k_mm4g
theorem t_mm4 {X : pX} {ρ0 : sR} (hv : vok X ρ0) : CUTOK X kR zWB c_bn1 13 ρ0 q_mm4 := fun ρ k1 hF hI k4 => by
  exact t_mm4g hv ρ k1 ⟨hF.1, fcn (s9_n (X := X) (ρ := ρ) (ix := 5634) (s := 0) (p := 60) (by decide +kernel)) (hF.2)⟩ hI k4
noncomputable def zf98zzzb_46 : sQ × Bool := ((0, .arg 60000, .op1 .l2i (.elem (.arg 64353) (.int 95))), true)
noncomputable def zf98zzzb_47 : sQ × Bool := ((158, .elem (.arg 64353) (.int 0), .int 3), true)
noncomputable def q_ma3 : sCut := ((fr 0 95 34 [(0, tr 75), (1, .int 90), (2, .int 3)] [], [fr 0 93 73 [(0, tr 75)] [], fr 0 60 30 [(0, tr 39), (1, .int 1)] [], fBot], 11), (fr 0 298 9 [(0, tr 219), (1, .arg 1308), (2, .int 6657)] [.arg 60000, .int 6657, .arg 1308, tr 219], [fr 0 297 81 [(0, tr 219), (1, .arg 1308), (5, .int 1)] [], fr 0 300 36 [(0, tr 219), (1, .arg 1308)] [], fBot], 11), [zf98zzzb_46, zf98zzzb_10, zf98zzzb_47, zf98zzzb_12, zf98zzzb_13, zf98zzzb_14, zf98zzzb_15, ((0, .arg 2816, .int 1), true), zf98zzzb_0, zf98zzzb_1, zf98zzzb_2, zf98zzzb_3, zf98zzzb_4, ((0, .arg 1698, .int 0), true), ((0, .arg 1300, .int 0), true), ((0, .arg 1302, .int 0), true), ((0, .arg 1430, .int 0), true), ((0, .arg 1318, .int 0), true), ((0, .arg 3232, .int 0), true), ((0, .arg 2050, .int 0), true), ((0, .arg 3264, .int 0), true), ((0, .arg 3296, .int 0), true), ((0, .arg 3328, .int 0), true), ((0, .arg 3168, .int 0), true), ((0, .arg 1858, .int 0), true), ((0, .arg 1890, .int 0), true), ((0, .arg 1922, .int 0), true), ((0, .arg 3008, .int 0), true), ((0, .arg 1954, .int 0), true), ((0, .arg 1986, .int 0), true), ((0, .arg 2018, .int 0), true), zf98zzzb_5, ((0, .arg 1702, .int 0), true), ((0, .arg 3360, .int 0), true), ((0, .arg 1350, .int 0), true), ((0, .arg 1826, .int 0), true), zf98zzzb_6, zf98zzzb_7, zf98zzzb_8, zf98zzzb_9, ((0, .arg 1730, .int 0), true)], i_bz)
noncomputable def zf98zzzb_48 : sQ × Bool := ((109, .add (.int 6657) (.int 0), .int 95), true)
noncomputable def zf98zzzb_49 : sQ × Bool := ((109, .add (.int 6657) (.int 1), .int 96), true)
noncomputable def zf98zzzb_50 : sQ × Bool := ((109, .add (.int 6657) (.int 2), .int 97), true)
noncomputable def zf98zzzb_51 : sQ × Bool := ((109, .add (.int 6657) (.int 3), .int 98), true)
noncomputable def zf98zzzb_52 : sQ × Bool := ((109, .add (.int 6657) (.int 4), .int 99), true)
noncomputable def q_ma3o : sCut := ((fr 0 95 34 [(0, tr 75), (1, .int 90), (2, .int 3)] [], [fr 0 93 73 [(0, tr 75)] [], fr 0 60 30 [(0, tr 39), (1, .int 1)] [], fBot], 11), (fr 0 298 9 [(0, tr 219), (1, .arg 1308), (2, .int 6657)] [.arg 60000, .int 6657, .arg 1308, tr 219], [fr 0 297 81 [(0, tr 219), (1, .arg 1308), (5, .int 1)] [], fr 0 300 36 [(0, tr 219), (1, .arg 1308)] [], fBot], 11), [zf98zzzb_48, zf98zzzb_49, zf98zzzb_50, zf98zzzb_51, zf98zzzb_52, zf98zzzb_23, zf98zzzb_24, ((139, .add (.elem (.arg 64353) (.int 0)) (.add (.int 95) (.arg 60000)), .int 0), true), zf98zzzb_46, zf98zzzb_10, zf98zzzb_47, zf98zzzb_12, zf98zzzb_13, zf98zzzb_14, zf98zzzb_15, ((0, .arg 2816, .int 1), true), zf98zzzb_0, zf98zzzb_1, zf98zzzb_2, zf98zzzb_3, zf98zzzb_4, ((0, .arg 1698, .int 0), true), ((0, .arg 1300, .int 0), true), ((0, .arg 1302, .int 0), true), ((0, .arg 1430, .int 0), true), ((0, .arg 1318, .int 0), true), ((0, .arg 3232, .int 0), true), ((0, .arg 2050, .int 0), true), ((0, .arg 3264, .int 0), true), ((0, .arg 3296, .int 0), true), ((0, .arg 3328, .int 0), true), ((0, .arg 3168, .int 0), true), ((0, .arg 1858, .int 0), true), ((0, .arg 1890, .int 0), true), ((0, .arg 1922, .int 0), true), ((0, .arg 3008, .int 0), true), ((0, .arg 1954, .int 0), true), ((0, .arg 1986, .int 0), true), ((0, .arg 2018, .int 0), true), zf98zzzb_5, ((0, .arg 1702, .int 0), true), ((0, .arg 3360, .int 0), true), ((0, .arg 1350, .int 0), true), ((0, .arg 1826, .int 0), true), zf98zzzb_6, zf98zzzb_7, zf98zzzb_8, zf98zzzb_9, ((0, .arg 1730, .int 0), true)], i_bz)
noncomputable def w_ma3o : List (sCut × List (Nat × sT) × List (Nat × sT × List (sT × sT))) := [(q_mm4T, [], [(64321, .arg 64321, []), (64353, .arg 64353, [])])]
theorem k_ma3o : cbody kR [(zWP, c_fndl), (zWB, c_mmo)] (cpl1 zWB c_bn1 [q_mm4T]) (cpl2 zWB c_bn1 [q_mm4T]) (cleafB kR zWB c_bn1 w_ma3o) 700 false false q_ma3o.2.2.1 q_ma3o.2.2.2 (cst zWB c_bn1.2.2.1.1 q_ma3o.1) (cst zWB c_bn1.2.2.1.2 q_ma3o.2.1) = true := by decide +kernel
theorem t_ma3o {X : pX} {ρ0 : sR} (hv : vok X ρ0) : CUTOK X kR zWB c_bn1 13 ρ0 q_ma3o := CUTOK_AT (fun ρ k1 hF hI k4 => AT_of (q := q_ma3o) rfl rfl (SEM_runB kR_x kR_0 (Cs := [(zWP, c_fndl), (zWB, c_mmo)]) (fun C hC => by
    simp only [List.mem_cons, List.not_mem_nil, or_false] at hC
    rcases hC with hC | hC
    · rw [hC]; exact s_fndl
    · rw [hC]; exact s_mmo) c_bn1_f (Q := w_ma3o) hv 700 (b1 := false) (b2 := false) k_ma3o k1 hF hI k4 (fun p hp ρ3 m1 m2 m3 m4 m5 m6 => by
  rw [List.mem_singleton.mp hp] at m2 m3 m5 m6 ⊢
  have eD : ρ3.1 1308 = ρ.1 1308 := (m4.1 1308 (by decide) (by decide)).1.trans (k4.1 1308 (by decide) (by decide)).1.symm
  obtain ⟨d0, d4⟩ := d_r hF.1
  have hA : ∀ j, ρ3.2.2.2.1 64321 j = ρ.2.2.2.1 64321 j := fun j => by
    have hw := m6 (64321, .arg 64321, []) (List.mem_cons_self) j
    have hw : Value.long (ρ3.2.2.2.1 64321 j) = Value.long (ρ.2.2.2.1 64321 j) := hw
    exact Value.long.inj hw
  have hB : ∀ j, ρ3.2.2.2.1 64353 j = ρ.2.2.2.1 64353 j := fun j => by
    have hw := m6 (64353, .arg 64353, []) (List.mem_cons_of_mem _ (List.mem_cons_self)) j
    have hw : Value.long (ρ3.2.2.2.1 64353 j) = Value.long (ρ.2.2.2.1 64353 j) := hw
    exact Value.long.inj hw
  have h7 := k157.mp (hF.2 _ (List.mem_cons_of_mem _ (List.mem_cons_of_mem _ (List.mem_cons_of_mem _ (List.mem_cons_of_mem _ (List.mem_cons_of_mem _ (List.mem_cons_of_mem _ (List.mem_cons_of_mem _ (List.mem_cons_of_mem _ (List.mem_cons_of_mem _ (List.mem_cons_self)))))))))))
  have h8 := k158.mp (hF.2 _ (List.mem_cons_of_mem _ (List.mem_cons_of_mem _ (List.mem_cons_of_mem _ (List.mem_cons_of_mem _ (List.mem_cons_of_mem _ (List.mem_cons_of_mem _ (List.mem_cons_of_mem _ (List.mem_cons_of_mem _ (List.mem_cons_of_mem _ (List.mem_cons_of_mem _ (List.mem_cons_self))))))))))))
  have h5 := k155.mp (hF.2 _ (List.mem_cons_of_mem _ (List.mem_cons_of_mem _ (List.mem_cons_of_mem _ (List.mem_cons_of_mem _ (List.mem_cons_of_mem _ (List.mem_cons_of_mem _ (List.mem_cons_of_mem _ (List.mem_cons_of_mem _ (List.mem_cons_of_mem _ (List.mem_cons_of_mem _ (List.mem_cons_of_mem _ (List.mem_cons_self)))))))))))))
  obtain ⟨v0, v4⟩ := ev_m4 (m := 95) (by decide) (h5 95 (by decide))
  have en : ρ.1 60000 = (ρ.2.2.2.1 64353 95).toInt32 := of_decide_eq_true (hF.2 _ (List.mem_cons_of_mem _ (List.mem_cons_of_mem _ (List.mem_cons_of_mem _ (List.mem_cons_of_mem _ (List.mem_cons_of_mem _ (List.mem_cons_of_mem _ (List.mem_cons_of_mem _ (List.mem_cons_of_mem _ (List.mem_cons_self))))))))))
  have hc : (0 : Int) = amcode (ρ.2.2.2.1 64353) 95 (ρ.1 60000).toInt.toNat := of_decide_eq_true (hF.2 _ (List.mem_cons_of_mem _ (List.mem_cons_of_mem _ (List.mem_cons_of_mem _ (List.mem_cons_of_mem _ (List.mem_cons_of_mem _ (List.mem_cons_of_mem _ (List.mem_cons_of_mem _ (List.mem_cons_self)))))))))
  rw [en, mv_l v0 (by omega)] at hc
  have eA : ρ3.2.2.2.1 64321 = ρ.2.2.2.1 64321 := funext hA
  have eB : ρ3.2.2.2.1 64353 = ρ.2.2.2.1 64353 := funext hB
  have x7 : sc X ρ3 (157, .add (.elem (.arg 64321) (.int 0)) (.add (.elem (.arg 64353) (.int 0)) (.arg 1308)), .int 8) = true := k157.mpr (by rw [eA, eB, eD]; exact h7)
  have x8 : sc X ρ3 (158, .elem (.arg 64353) (.int 0), .int 4) = true := k158.mpr (by rw [eB]; exact ampm_t (K := 3) (m := 95) rfl h8 hc.symm)
  have x5 : sc X ρ3 (155, .elem (.arg 64353) (.int 0), .int 0) = true := k155.mpr (by rw [eB]; exact h5)
  have z1 : sc X ρ3 (6, .elem (.arg 64321) (.int 1), .long 0) = true := decide_eq_true (show ρ3.2.2.2.1 64321 1 = 0 by
    rw [hA]
    exact of_decide_eq_true (hF.2 _ (List.mem_cons_of_mem _ (List.mem_cons_of_mem _ (List.mem_cons_of_mem _ (List.mem_cons_of_mem _ (List.mem_cons_of_mem _ (List.mem_cons_of_mem _ (List.mem_cons_of_mem _ (List.mem_cons_of_mem _ (List.mem_cons_of_mem _ (List.mem_cons_of_mem _ (List.mem_cons_of_mem _ (List.mem_cons_of_mem _ (List.mem_cons_self)))))))))))))))
  have z2 : sc X ρ3 (6, .elem (.arg 64353) (.int 114), .long 0) = true := decide_eq_true (show ρ3.2.2.2.1 64353 114 = 0 by
    rw [hB]
    exact of_decide_eq_true (hF.2 _ (List.mem_cons_of_mem _ (List.mem_cons_of_mem _ (List.mem_cons_of_mem _ (List.mem_cons_of_mem _ (List.mem_cons_of_mem _ (List.mem_cons_of_mem _ (List.mem_cons_of_mem _ (List.mem_cons_of_mem _ (List.mem_cons_of_mem _ (List.mem_cons_of_mem _ (List.mem_cons_of_mem _ (List.mem_cons_of_mem _ (List.mem_cons_of_mem _ (List.mem_cons_self))))))))))))))))
  have z3 : sc X ρ3 (6, .elem (.arg 64353) (.int 123), .long 0) = true := decide_eq_true (show ρ3.2.2.2.1 64353 123 = 0 by
    rw [hB]
    exact of_decide_eq_true (hF.2 _ (List.mem_cons_of_mem _ (List.mem_cons_of_mem _ (List.mem_cons_of_mem _ (List.mem_cons_of_mem _ (List.mem_cons_of_mem _ (List.mem_cons_of_mem _ (List.mem_cons_of_mem _ (List.mem_cons_of_mem _ (List.mem_cons_of_mem _ (List.mem_cons_of_mem _ (List.mem_cons_of_mem _ (List.mem_cons_of_mem _ (List.mem_cons_of_mem _ (List.mem_cons_of_mem _ (List.mem_cons_self)))))))))))))))))
  exact t_mm4 hv ρ3 m1 ⟨m2.1, fcn (x7) (fcn (x8) (fcn (x5) (fcn (z1) (fcn (z2) (fcn (z3) (m2.2))))))⟩ m3 m4)))
noncomputable def q_ma3n : sCut := ((fr 0 95 34 [(0, tr 75), (1, .int 90), (2, .int 3)] [], [fr 0 93 73 [(0, tr 75)] [], fr 0 60 30 [(0, tr 39), (1, .int 1)] [], fBot], 11), (fr 0 298 9 [(0, tr 219), (1, .arg 1308), (2, .int 6657)] [.arg 60000, .int 6657, .arg 1308, tr 219], [fr 0 297 81 [(0, tr 219), (1, .arg 1308), (5, .int 1)] [], fr 0 300 36 [(0, tr 219), (1, .arg 1308)] [], fBot], 11), [zf98zzzb_48, zf98zzzb_49, zf98zzzb_50, zf98zzzb_51, zf98zzzb_52, zf98zzzb_23, zf98zzzb_24, ((139, .add (.elem (.arg 64353) (.int 0)) (.add (.int 95) (.arg 60000)), .int 100925505), true), zf98zzzb_46, zf98zzzb_10, zf98zzzb_47, zf98zzzb_12, zf98zzzb_13, zf98zzzb_14, zf98zzzb_15, ((0, .arg 2816, .int 1), true), zf98zzzb_0, zf98zzzb_1, zf98zzzb_2, zf98zzzb_3, zf98zzzb_4, ((0, .arg 1698, .int 0), true), ((0, .arg 1300, .int 0), true), ((0, .arg 1302, .int 0), true), ((0, .arg 1430, .int 0), true), ((0, .arg 1318, .int 0), true), ((0, .arg 3232, .int 0), true), ((0, .arg 2050, .int 0), true), ((0, .arg 3264, .int 0), true), ((0, .arg 3296, .int 0), true), ((0, .arg 3328, .int 0), true), ((0, .arg 3168, .int 0), true), ((0, .arg 1858, .int 0), true), ((0, .arg 1890, .int 0), true), ((0, .arg 1922, .int 0), true), ((0, .arg 3008, .int 0), true), ((0, .arg 1954, .int 0), true), ((0, .arg 1986, .int 0), true), ((0, .arg 2018, .int 0), true), zf98zzzb_5, ((0, .arg 1702, .int 0), true), ((0, .arg 3360, .int 0), true), ((0, .arg 1350, .int 0), true), ((0, .arg 1826, .int 0), true), zf98zzzb_6, zf98zzzb_7, zf98zzzb_8, zf98zzzb_9, ((0, .arg 1730, .int 0), true)], i_bz)
noncomputable def w_ma3n : List (sCut × List (Nat × sT) × List (Nat × sT × List (sT × sT))) := [(q_mm4T, [], [(64321, .arg 64321, []), (64353, .arg 64353, [(.int 99, .long 0), (.int 98, .long 0), (.int 97, .long 0), (.int 96, .long 0), (.int 95, .long 0)])])]
theorem k_ma3n : cbody kR [(zWP, c_fndl), (zWB, c_mmn)] (cpl1 zWB c_bn1 [q_mm4T]) (cpl2 zWB c_bn1 [q_mm4T]) (cleafB kR zWB c_bn1 w_ma3n) 700 false false q_ma3n.2.2.1 q_ma3n.2.2.2 (cst zWB c_bn1.2.2.1.1 q_ma3n.1) (cst zWB c_bn1.2.2.1.2 q_ma3n.2.1) = true := by decide +kernel
theorem t_ma3n {X : pX} {ρ0 : sR} (hv : vok X ρ0) : CUTOK X kR zWB c_bn1 13 ρ0 q_ma3n := CUTOK_AT (fun ρ k1 hF hI k4 => AT_of (q := q_ma3n) rfl rfl (SEM_runB kR_x kR_0 (Cs := [(zWP, c_fndl), (zWB, c_mmn)]) (fun C hC => by
    simp only [List.mem_cons, List.not_mem_nil, or_false] at hC
    rcases hC with hC | hC
    · rw [hC]; exact s_fndl
    · rw [hC]; exact s_mmn) c_bn1_f (Q := w_ma3n) hv 700 (b1 := false) (b2 := false) k_ma3n k1 hF hI k4 (fun p hp ρ3 m1 m2 m3 m4 m5 m6 => by
  rw [List.mem_singleton.mp hp] at m2 m3 m5 m6 ⊢
  have eD : ρ3.1 1308 = ρ.1 1308 := (m4.1 1308 (by decide) (by decide)).1.trans (k4.1 1308 (by decide) (by decide)).1.symm
  obtain ⟨d0, d4⟩ := d_r hF.1
  have hA : ∀ j, ρ3.2.2.2.1 64321 j = ρ.2.2.2.1 64321 j := fun j => by
    have hw := m6 (64321, .arg 64321, []) (List.mem_cons_self) j
    have hw : Value.long (ρ3.2.2.2.1 64321 j) = Value.long (ρ.2.2.2.1 64321 j) := hw
    exact Value.long.inj hw
  obtain ⟨hBn, hBf⟩ := fiv_w (f := ρ.2.2.2.1 64353) (g := ρ3.2.2.2.1 64353) (m := 95) (d := (ρ.1 1308).toInt) (v0 := 0) (v1 := 0) (v2 := 0) (v3 := 0) (v4 := 0) (fun j => m6 (64353, .arg 64353, [(.int 99, .long 0), (.int 98, .long 0), (.int 97, .long 0), (.int 96, .long 0), (.int 95, .long 0)]) (List.mem_cons_of_mem _ (List.mem_cons_self)) j) (amw_95 d0 d4 (i := 0) (by decide)) (amw_95 d0 d4 (i := 1) (by decide)) (amw_95 d0 d4 (i := 2) (by decide)) (amw_95 d0 d4 (i := 3) (by decide)) (amw_95 d0 d4 (i := 4) (by decide))
  have h7 := k157.mp (hF.2 _ (List.mem_cons_of_mem _ (List.mem_cons_of_mem _ (List.mem_cons_of_mem _ (List.mem_cons_of_mem _ (List.mem_cons_of_mem _ (List.mem_cons_of_mem _ (List.mem_cons_of_mem _ (List.mem_cons_of_mem _ (List.mem_cons_of_mem _ (List.mem_cons_self)))))))))))
  have h8 := k158.mp (hF.2 _ (List.mem_cons_of_mem _ (List.mem_cons_of_mem _ (List.mem_cons_of_mem _ (List.mem_cons_of_mem _ (List.mem_cons_of_mem _ (List.mem_cons_of_mem _ (List.mem_cons_of_mem _ (List.mem_cons_of_mem _ (List.mem_cons_of_mem _ (List.mem_cons_of_mem _ (List.mem_cons_self))))))))))))
  have h5 := k155.mp (hF.2 _ (List.mem_cons_of_mem _ (List.mem_cons_of_mem _ (List.mem_cons_of_mem _ (List.mem_cons_of_mem _ (List.mem_cons_of_mem _ (List.mem_cons_of_mem _ (List.mem_cons_of_mem _ (List.mem_cons_of_mem _ (List.mem_cons_of_mem _ (List.mem_cons_of_mem _ (List.mem_cons_of_mem _ (List.mem_cons_self)))))))))))))
  obtain ⟨v0, v4⟩ := ev_m4 (m := 95) (by decide) (h5 95 (by decide))
  have en : ρ.1 60000 = (ρ.2.2.2.1 64353 95).toInt32 := of_decide_eq_true (hF.2 _ (List.mem_cons_of_mem _ (List.mem_cons_of_mem _ (List.mem_cons_of_mem _ (List.mem_cons_of_mem _ (List.mem_cons_of_mem _ (List.mem_cons_of_mem _ (List.mem_cons_of_mem _ (List.mem_cons_of_mem _ (List.mem_cons_self))))))))))
  have hc : (100925505 : Int) = amcode (ρ.2.2.2.1 64353) 95 (ρ.1 60000).toInt.toNat := of_decide_eq_true (hF.2 _ (List.mem_cons_of_mem _ (List.mem_cons_of_mem _ (List.mem_cons_of_mem _ (List.mem_cons_of_mem _ (List.mem_cons_of_mem _ (List.mem_cons_of_mem _ (List.mem_cons_of_mem _ (List.mem_cons_self)))))))))
  rw [en, mv_l v0 (by omega)] at hc
  have hm : 95 ∈ amps := by decide
  have hn : ¬ amcode (ρ.2.2.2.1 64353) 95 (ρ.2.2.2.1 64353 95).toInt.toNat = 0 := by rw [← hc]; decide
  have eA : ρ3.2.2.2.1 64321 = ρ.2.2.2.1 64321 := funext hA
  have x7 : sc X ρ3 (157, .add (.elem (.arg 64321) (.int 0)) (.add (.elem (.arg 64353) (.int 0)) (.arg 1308)), .int 8) = true := k157.mpr (by rw [eA, eD]; exact amn_m d0 d4 hm h7 h5 hn (fun j _ hj => hBn j hj) hBf)
  have x8 : sc X ρ3 (158, .elem (.arg 64353) (.int 0), .int 4) = true := k158.mpr (ampm_t (K := 3) (m := 95) rfl (fun x hx => by
    have hx2 : x ∈ amps := of_decide_eq_true (List.all_eq_true.mp ampm_i x (List.mem_of_mem_take hx))
    by_cases e : x = 95
    · rw [e]; exact amf_0 d0 d4 hm hBf
    · rw [amo_c hm hx2 e h5 (fun j _ hj => hBn j hj)]; exact h8 x hx) (amf_0 d0 d4 hm hBf))
  have x5 : sc X ρ3 (155, .elem (.arg 64353) (.int 0), .int 0) = true := k155.mpr (fun j hj => by
    by_cases hi : 95 ≤ j ∧ j < 95 + 5
    · rw [hBf j hi.1 hi.2]; exact evf_k d0 d4 hj
    · rw [hBn j hi]; exact h5 j hj)
  have z1 : sc X ρ3 (6, .elem (.arg 64321) (.int 1), .long 0) = true := decide_eq_true (show ρ3.2.2.2.1 64321 1 = 0 by
    rw [hA]
    exact of_decide_eq_true (hF.2 _ (List.mem_cons_of_mem _ (List.mem_cons_of_mem _ (List.mem_cons_of_mem _ (List.mem_cons_of_mem _ (List.mem_cons_of_mem _ (List.mem_cons_of_mem _ (List.mem_cons_of_mem _ (List.mem_cons_of_mem _ (List.mem_cons_of_mem _ (List.mem_cons_of_mem _ (List.mem_cons_of_mem _ (List.mem_cons_of_mem _ (List.mem_cons_self)))))))))))))))
  have z2 : sc X ρ3 (6, .elem (.arg 64353) (.int 114), .long 0) = true := decide_eq_true (show ρ3.2.2.2.1 64353 114 = 0 by
    rw [hBn 114 (by decide)]
    exact of_decide_eq_true (hF.2 _ (List.mem_cons_of_mem _ (List.mem_cons_of_mem _ (List.mem_cons_of_mem _ (List.mem_cons_of_mem _ (List.mem_cons_of_mem _ (List.mem_cons_of_mem _ (List.mem_cons_of_mem _ (List.mem_cons_of_mem _ (List.mem_cons_of_mem _ (List.mem_cons_of_mem _ (List.mem_cons_of_mem _ (List.mem_cons_of_mem _ (List.mem_cons_of_mem _ (List.mem_cons_self))))))))))))))))
  have z3 : sc X ρ3 (6, .elem (.arg 64353) (.int 123), .long 0) = true := decide_eq_true (show ρ3.2.2.2.1 64353 123 = 0 by
    rw [hBn 123 (by decide)]
    exact of_decide_eq_true (hF.2 _ (List.mem_cons_of_mem _ (List.mem_cons_of_mem _ (List.mem_cons_of_mem _ (List.mem_cons_of_mem _ (List.mem_cons_of_mem _ (List.mem_cons_of_mem _ (List.mem_cons_of_mem _ (List.mem_cons_of_mem _ (List.mem_cons_of_mem _ (List.mem_cons_of_mem _ (List.mem_cons_of_mem _ (List.mem_cons_of_mem _ (List.mem_cons_of_mem _ (List.mem_cons_of_mem _ (List.mem_cons_self)))))))))))))))))
  exact t_mm4 hv ρ3 m1 ⟨m2.1, fcn (x7) (fcn (x8) (fcn (x5) (fcn (z1) (fcn (z2) (fcn (z3) (m2.2))))))⟩ m3 m4)))
noncomputable def q_ma3l : sCut := ((fr 0 95 34 [(0, tr 75), (1, .int 90), (2, .int 3)] [], [fr 0 93 73 [(0, tr 75)] [], fr 0 60 30 [(0, tr 39), (1, .int 1)] [], fBot], 11), (fr 0 298 9 [(0, tr 219), (1, .arg 1308), (2, .int 6657)] [.arg 60000, .int 6657, .arg 1308, tr 219], [fr 0 297 81 [(0, tr 219), (1, .arg 1308), (5, .int 1)] [], fr 0 300 36 [(0, tr 219), (1, .arg 1308)] [], fBot], 11), [zf98zzzb_48, zf98zzzb_49, zf98zzzb_50, zf98zzzb_51, zf98zzzb_52, zf98zzzb_23, zf98zzzb_24, ((139, .add (.elem (.arg 64353) (.int 0)) (.add (.int 95) (.arg 60000)), .int 100925506), true), zf98zzzb_46, zf98zzzb_10, zf98zzzb_47, zf98zzzb_12, zf98zzzb_13, zf98zzzb_14, zf98zzzb_15, ((0, .arg 2816, .int 1), true), zf98zzzb_0, zf98zzzb_1, zf98zzzb_2, zf98zzzb_3, zf98zzzb_4, ((0, .arg 1698, .int 0), true), ((0, .arg 1300, .int 0), true), ((0, .arg 1302, .int 0), true), ((0, .arg 1430, .int 0), true), ((0, .arg 1318, .int 0), true), ((0, .arg 3232, .int 0), true), ((0, .arg 2050, .int 0), true), ((0, .arg 3264, .int 0), true), ((0, .arg 3296, .int 0), true), ((0, .arg 3328, .int 0), true), ((0, .arg 3168, .int 0), true), ((0, .arg 1858, .int 0), true), ((0, .arg 1890, .int 0), true), ((0, .arg 1922, .int 0), true), ((0, .arg 3008, .int 0), true), ((0, .arg 1954, .int 0), true), ((0, .arg 1986, .int 0), true), ((0, .arg 2018, .int 0), true), zf98zzzb_5, ((0, .arg 1702, .int 0), true), ((0, .arg 3360, .int 0), true), ((0, .arg 1350, .int 0), true), ((0, .arg 1826, .int 0), true), zf98zzzb_6, zf98zzzb_7, zf98zzzb_8, zf98zzzb_9, ((0, .arg 1730, .int 0), true)], i_bz)
noncomputable def w_ma3l : List (sCut × List (Nat × sT) × List (Nat × sT × List (sT × sT))) := [(q_mm4T, [], [(64321, .arg 64321, []), (64353, .arg 64353, [(.int 99, .long 0), (.int 98, .long 0), (.int 97, .long 0), (.int 96, .long 0), (.int 95, .long 0)])])]
theorem k_ma3l : cbody kR [(zWP, c_fndl), (zWB, c_mml)] (cpl1 zWB c_bn1 [q_mm4T]) (cpl2 zWB c_bn1 [q_mm4T]) (cleafB kR zWB c_bn1 w_ma3l) 700 false false q_ma3l.2.2.1 q_ma3l.2.2.2 (cst zWB c_bn1.2.2.1.1 q_ma3l.1) (cst zWB c_bn1.2.2.1.2 q_ma3l.2.1) = true := by decide +kernel
theorem t_ma3l {X : pX} {ρ0 : sR} (hv : vok X ρ0) : CUTOK X kR zWB c_bn1 13 ρ0 q_ma3l := CUTOK_AT (fun ρ k1 hF hI k4 => AT_of (q := q_ma3l) rfl rfl (SEM_runB kR_x kR_0 (Cs := [(zWP, c_fndl), (zWB, c_mml)]) (fun C hC => by
    simp only [List.mem_cons, List.not_mem_nil, or_false] at hC
    rcases hC with hC | hC
    · rw [hC]; exact s_fndl
    · rw [hC]; exact s_mml) c_bn1_f (Q := w_ma3l) hv 700 (b1 := false) (b2 := false) k_ma3l k1 hF hI k4 (fun p hp ρ3 m1 m2 m3 m4 m5 m6 => by
  rw [List.mem_singleton.mp hp] at m2 m3 m5 m6 ⊢
  have eD : ρ3.1 1308 = ρ.1 1308 := (m4.1 1308 (by decide) (by decide)).1.trans (k4.1 1308 (by decide) (by decide)).1.symm
  obtain ⟨d0, d4⟩ := d_r hF.1
  have hA : ∀ j, ρ3.2.2.2.1 64321 j = ρ.2.2.2.1 64321 j := fun j => by
    have hw := m6 (64321, .arg 64321, []) (List.mem_cons_self) j
    have hw : Value.long (ρ3.2.2.2.1 64321 j) = Value.long (ρ.2.2.2.1 64321 j) := hw
    exact Value.long.inj hw
  obtain ⟨hBn, hBf⟩ := fiv_w (f := ρ.2.2.2.1 64353) (g := ρ3.2.2.2.1 64353) (m := 95) (d := (ρ.1 1308).toInt) (v0 := 0) (v1 := 0) (v2 := 0) (v3 := 0) (v4 := 0) (fun j => m6 (64353, .arg 64353, [(.int 99, .long 0), (.int 98, .long 0), (.int 97, .long 0), (.int 96, .long 0), (.int 95, .long 0)]) (List.mem_cons_of_mem _ (List.mem_cons_self)) j) (amw_95 d0 d4 (i := 0) (by decide)) (amw_95 d0 d4 (i := 1) (by decide)) (amw_95 d0 d4 (i := 2) (by decide)) (amw_95 d0 d4 (i := 3) (by decide)) (amw_95 d0 d4 (i := 4) (by decide))
  have h7 := k157.mp (hF.2 _ (List.mem_cons_of_mem _ (List.mem_cons_of_mem _ (List.mem_cons_of_mem _ (List.mem_cons_of_mem _ (List.mem_cons_of_mem _ (List.mem_cons_of_mem _ (List.mem_cons_of_mem _ (List.mem_cons_of_mem _ (List.mem_cons_of_mem _ (List.mem_cons_self)))))))))))
  have h8 := k158.mp (hF.2 _ (List.mem_cons_of_mem _ (List.mem_cons_of_mem _ (List.mem_cons_of_mem _ (List.mem_cons_of_mem _ (List.mem_cons_of_mem _ (List.mem_cons_of_mem _ (List.mem_cons_of_mem _ (List.mem_cons_of_mem _ (List.mem_cons_of_mem _ (List.mem_cons_of_mem _ (List.mem_cons_self))))))))))))
  have h5 := k155.mp (hF.2 _ (List.mem_cons_of_mem _ (List.mem_cons_of_mem _ (List.mem_cons_of_mem _ (List.mem_cons_of_mem _ (List.mem_cons_of_mem _ (List.mem_cons_of_mem _ (List.mem_cons_of_mem _ (List.mem_cons_of_mem _ (List.mem_cons_of_mem _ (List.mem_cons_of_mem _ (List.mem_cons_of_mem _ (List.mem_cons_self)))))))))))))
  obtain ⟨v0, v4⟩ := ev_m4 (m := 95) (by decide) (h5 95 (by decide))
  have en : ρ.1 60000 = (ρ.2.2.2.1 64353 95).toInt32 := of_decide_eq_true (hF.2 _ (List.mem_cons_of_mem _ (List.mem_cons_of_mem _ (List.mem_cons_of_mem _ (List.mem_cons_of_mem _ (List.mem_cons_of_mem _ (List.mem_cons_of_mem _ (List.mem_cons_of_mem _ (List.mem_cons_of_mem _ (List.mem_cons_self))))))))))
  have hc : (100925506 : Int) = amcode (ρ.2.2.2.1 64353) 95 (ρ.1 60000).toInt.toNat := of_decide_eq_true (hF.2 _ (List.mem_cons_of_mem _ (List.mem_cons_of_mem _ (List.mem_cons_of_mem _ (List.mem_cons_of_mem _ (List.mem_cons_of_mem _ (List.mem_cons_of_mem _ (List.mem_cons_of_mem _ (List.mem_cons_self)))))))))
  rw [en, mv_l v0 (by omega)] at hc
  have hm : 95 ∈ amps := by decide
  have hn : ¬ amcode (ρ.2.2.2.1 64353) 95 (ρ.2.2.2.1 64353 95).toInt.toNat = 0 := by rw [← hc]; decide
  have eA : ρ3.2.2.2.1 64321 = ρ.2.2.2.1 64321 := funext hA
  have x7 : sc X ρ3 (157, .add (.elem (.arg 64321) (.int 0)) (.add (.elem (.arg 64353) (.int 0)) (.arg 1308)), .int 8) = true := k157.mpr (by rw [eA, eD]; exact amn_m d0 d4 hm h7 h5 hn (fun j _ hj => hBn j hj) hBf)
  have x8 : sc X ρ3 (158, .elem (.arg 64353) (.int 0), .int 4) = true := k158.mpr (ampm_t (K := 3) (m := 95) rfl (fun x hx => by
    have hx2 : x ∈ amps := of_decide_eq_true (List.all_eq_true.mp ampm_i x (List.mem_of_mem_take hx))
    by_cases e : x = 95
    · rw [e]; exact amf_0 d0 d4 hm hBf
    · rw [amo_c hm hx2 e h5 (fun j _ hj => hBn j hj)]; exact h8 x hx) (amf_0 d0 d4 hm hBf))
  have x5 : sc X ρ3 (155, .elem (.arg 64353) (.int 0), .int 0) = true := k155.mpr (fun j hj => by
    by_cases hi : 95 ≤ j ∧ j < 95 + 5
    · rw [hBf j hi.1 hi.2]; exact evf_k d0 d4 hj
    · rw [hBn j hi]; exact h5 j hj)
  have z1 : sc X ρ3 (6, .elem (.arg 64321) (.int 1), .long 0) = true := decide_eq_true (show ρ3.2.2.2.1 64321 1 = 0 by
    rw [hA]
    exact of_decide_eq_true (hF.2 _ (List.mem_cons_of_mem _ (List.mem_cons_of_mem _ (List.mem_cons_of_mem _ (List.mem_cons_of_mem _ (List.mem_cons_of_mem _ (List.mem_cons_of_mem _ (List.mem_cons_of_mem _ (List.mem_cons_of_mem _ (List.mem_cons_of_mem _ (List.mem_cons_of_mem _ (List.mem_cons_of_mem _ (List.mem_cons_of_mem _ (List.mem_cons_self)))))))))))))))
  have z2 : sc X ρ3 (6, .elem (.arg 64353) (.int 114), .long 0) = true := decide_eq_true (show ρ3.2.2.2.1 64353 114 = 0 by
    rw [hBn 114 (by decide)]
    exact of_decide_eq_true (hF.2 _ (List.mem_cons_of_mem _ (List.mem_cons_of_mem _ (List.mem_cons_of_mem _ (List.mem_cons_of_mem _ (List.mem_cons_of_mem _ (List.mem_cons_of_mem _ (List.mem_cons_of_mem _ (List.mem_cons_of_mem _ (List.mem_cons_of_mem _ (List.mem_cons_of_mem _ (List.mem_cons_of_mem _ (List.mem_cons_of_mem _ (List.mem_cons_of_mem _ (List.mem_cons_self))))))))))))))))
  have z3 : sc X ρ3 (6, .elem (.arg 64353) (.int 123), .long 0) = true := decide_eq_true (show ρ3.2.2.2.1 64353 123 = 0 by
    rw [hBn 123 (by decide)]
    exact of_decide_eq_true (hF.2 _ (List.mem_cons_of_mem _ (List.mem_cons_of_mem _ (List.mem_cons_of_mem _ (List.mem_cons_of_mem _ (List.mem_cons_of_mem _ (List.mem_cons_of_mem _ (List.mem_cons_of_mem _ (List.mem_cons_of_mem _ (List.mem_cons_of_mem _ (List.mem_cons_of_mem _ (List.mem_cons_of_mem _ (List.mem_cons_of_mem _ (List.mem_cons_of_mem _ (List.mem_cons_of_mem _ (List.mem_cons_self)))))))))))))))))
  exact t_mm4 hv ρ3 m1 ⟨m2.1, fcn (x7) (fcn (x8) (fcn (x5) (fcn (z1) (fcn (z2) (fcn (z3) (m2.2))))))⟩ m3 m4)))
theorem t_ma3 {X : pX} {ρ0 : sR} (hv : vok X ρ0) : CUTOK X kR zWB c_bn1 13 ρ0 q_ma3 := fun ρ k1 hF hI k4 => by
  have h5 := k155.mp (hF.2 _ (List.mem_cons_of_mem _ (List.mem_cons_of_mem _ (List.mem_cons_of_mem _ (List.mem_cons_self)))))
  obtain ⟨v0, v4⟩ := ev_m4 (m := 95) (by decide) (h5 95 (by decide))
  have f0 := s9_n (X := X) (ρ := ρ) (ix := 6657) (s := 0) (p := 95) (by decide +kernel)
  have f1 := s9_n (X := X) (ρ := ρ) (ix := 6657) (s := 1) (p := 96) (by decide +kernel)
  have f2 := s9_n (X := X) (ρ := ρ) (ix := 6657) (s := 2) (p := 97) (by decide +kernel)
  have f3 := s9_n (X := X) (ρ := ρ) (ix := 6657) (s := 3) (p := 98) (by decide +kernel)
  have f4 := s9_n (X := X) (ρ := ρ) (ix := 6657) (s := 4) (p := 99) (by decide +kernel)
  have en : ρ.1 60000 = (ρ.2.2.2.1 64353 95).toInt32 := of_decide_eq_true (hF.2 _ (List.mem_cons_self))
  have ev : (ρ.1 60000).toInt = (ρ.2.2.2.1 64353 95).toInt := by rw [en]; exact mv_l v0 (by omega)
  rcases am_3 (g := ρ.2.2.2.1 64353) (m := 95) (n := (ρ.1 60000).toInt.toNat) with h | h | h
  · exact t_ma3o hv ρ k1 ⟨hF.1, fcn (f0) (fcn (f1) (fcn (f2) (fcn (f3) (fcn (f4) (fcn (di_lf (x := ρ.1 60000) (y := 0) (by rw [ev]; show (0 : Int) ≤ _; exact v0)) (fcn (di_lf (x := 4) (y := ρ.1 60000) (by rw [ev]; show _ ≤ (4 : Int); exact v4)) (fcn (decide_eq_true (show (0 : Int) = amcode (ρ.2.2.2.1 64353) 95 (ρ.1 60000).toInt.toNat from h.symm)) (hF.2))))))))⟩ hI k4
  · exact t_ma3n hv ρ k1 ⟨hF.1, fcn (f0) (fcn (f1) (fcn (f2) (fcn (f3) (fcn (f4) (fcn (di_lf (x := ρ.1 60000) (y := 0) (by rw [ev]; show (0 : Int) ≤ _; exact v0)) (fcn (di_lf (x := 4) (y := ρ.1 60000) (by rw [ev]; show _ ≤ (4 : Int); exact v4)) (fcn (decide_eq_true (show (100925505 : Int) = amcode (ρ.2.2.2.1 64353) 95 (ρ.1 60000).toInt.toNat from h.symm)) (hF.2))))))))⟩ hI k4
  · exact t_ma3l hv ρ k1 ⟨hF.1, fcn (f0) (fcn (f1) (fcn (f2) (fcn (f3) (fcn (f4) (fcn (di_lf (x := ρ.1 60000) (y := 0) (by rw [ev]; show (0 : Int) ≤ _; exact v0)) (fcn (di_lf (x := 4) (y := ρ.1 60000) (by rw [ev]; show _ ≤ (4 : Int); exact v4)) (fcn (decide_eq_true (show (100925506 : Int) = amcode (ρ.2.2.2.1 64353) 95 (ρ.1 60000).toInt.toNat from h.symm)) (hF.2))))))))⟩ hI k4
noncomputable def q_mm3 : sCut := ((fr 0 95 34 [(0, tr 75), (1, .int 90), (2, .int 3)] [], [fr 0 93 73 [(0, tr 75)] [], fr 0 60 30 [(0, tr 39), (1, .int 1)] [], fBot], 11), (fr 0 297 75 [(0, tr 219), (1, .arg 1308), (5, .int 1)] [], [fr 0 300 36 [(0, tr 219), (1, .arg 1308)] [], fBot], 12), [zf98zzzb_10, zf98zzzb_47, zf98zzzb_12, zf98zzzb_13, zf98zzzb_14, zf98zzzb_15, ((0, .arg 2816, .int 1), true), zf98zzzb_0, zf98zzzb_1, zf98zzzb_2, zf98zzzb_3, zf98zzzb_4, ((0, .arg 1698, .int 0), true), ((0, .arg 1300, .int 0), true), ((0, .arg 1302, .int 0), true), ((0, .arg 1430, .int 0), true), ((0, .arg 1318, .int 0), true), ((0, .arg 3232, .int 0), true), ((0, .arg 2050, .int 0), true), ((0, .arg 3264, .int 0), true), ((0, .arg 3296, .int 0), true), ((0, .arg 3328, .int 0), true), ((0, .arg 3168, .int 0), true), ((0, .arg 1858, .int 0), true), ((0, .arg 1890, .int 0), true), ((0, .arg 1922, .int 0), true), ((0, .arg 3008, .int 0), true), ((0, .arg 1954, .int 0), true), ((0, .arg 1986, .int 0), true), ((0, .arg 2018, .int 0), true), zf98zzzb_5, ((0, .arg 1702, .int 0), true), ((0, .arg 3360, .int 0), true), ((0, .arg 1350, .int 0), true), ((0, .arg 1826, .int 0), true), zf98zzzb_6, zf98zzzb_7, zf98zzzb_8, zf98zzzb_9, ((0, .arg 1730, .int 0), true)], i_bz)
noncomputable def q_mm3g : sCut := ((fr 0 95 34 [(0, tr 75), (1, .int 90), (2, .int 3)] [], [fr 0 93 73 [(0, tr 75)] [], fr 0 60 30 [(0, tr 39), (1, .int 1)] [], fBot], 11), (fr 0 297 75 [(0, tr 219), (1, .arg 1308), (5, .int 1)] [], [fr 0 300 36 [(0, tr 219), (1, .arg 1308)] [], fBot], 12), [zf98zzzb_48, zf98zzzb_10, zf98zzzb_47, zf98zzzb_12, zf98zzzb_13, zf98zzzb_14, zf98zzzb_15, ((0, .arg 2816, .int 1), true), zf98zzzb_0, zf98zzzb_1, zf98zzzb_2, zf98zzzb_3, zf98zzzb_4, ((0, .arg 1698, .int 0), true), ((0, .arg 1300, .int 0), true), ((0, .arg 1302, .int 0), true), ((0, .arg 1430, .int 0), true), ((0, .arg 1318, .int 0), true), ((0, .arg 3232, .int 0), true), ((0, .arg 2050, .int 0), true), ((0, .arg 3264, .int 0), true), ((0, .arg 3296, .int 0), true), ((0, .arg 3328, .int 0), true), ((0, .arg 3168, .int 0), true), ((0, .arg 1858, .int 0), true), ((0, .arg 1890, .int 0), true), ((0, .arg 1922, .int 0), true), ((0, .arg 3008, .int 0), true), ((0, .arg 1954, .int 0), true), ((0, .arg 1986, .int 0), true), ((0, .arg 2018, .int 0), true), zf98zzzb_5, ((0, .arg 1702, .int 0), true), ((0, .arg 3360, .int 0), true), ((0, .arg 1350, .int 0), true), ((0, .arg 1826, .int 0), true), zf98zzzb_6, zf98zzzb_7, zf98zzzb_8, zf98zzzb_9, ((0, .arg 1730, .int 0), true)], i_bz)
theorem k_mm3g : cbody kR [(zWP, c_fndl)] (cpl1 zWB c_bn1 [q_ma3]) (cpl2 zWB c_bn1 [q_ma3]) (cleaf kR zWB c_bn1 [q_ma3]) 200 false true q_mm3g.2.2.1 q_mm3g.2.2.2 (cst zWB c_bn1.2.2.1.1 q_mm3g.1) (cst zWB c_bn1.2.2.1.2 q_mm3g.2.1) = true := by decide +kernel
theorem t_mm3g {X : pX} {ρ0 : sR} (hv : vok X ρ0) : CUTOK X kR zWB c_bn1 13 ρ0 q_mm3g := CUT_run kR_x kR_0 (Cs := [(zWP, c_fndl)]) (fun C hC => by rw [List.mem_singleton.mp hC]; exact s_fndl) c_bn1_f (Q := [q_ma3]) hv (fun q hq => by
    simp only [List.mem_cons, List.not_mem_nil, or_false] at hq
    rw [hq]; exact t_ma3 hv) 200 (b1 := false) (b2 := true) k_mm3g
theorem t_mm3 {X : pX} {ρ0 : sR} (hv : vok X ρ0) : CUTOK X kR zWB c_bn1 13 ρ0 q_mm3 := fun ρ k1 hF hI k4 => by
  exact t_mm3g hv ρ k1 ⟨hF.1, fcn (s9_n (X := X) (ρ := ρ) (ix := 6657) (s := 0) (p := 95) (by decide +kernel)) (hF.2)⟩ hI k4
noncomputable def zf98zzzb_53 : sQ × Bool := ((0, .arg 60000, .op1 .l2i (.elem (.arg 64353) (.int 55))), true)
noncomputable def zf98zzzb_54 : sQ × Bool := ((158, .elem (.arg 64353) (.int 0), .int 2), true)
noncomputable def q_ma2 : sCut := ((fr 0 95 34 [(0, tr 75), (1, .int 90), (2, .int 3)] [], [fr 0 93 73 [(0, tr 75)] [], fr 0 60 30 [(0, tr 39), (1, .int 1)] [], fBot], 11), (fr 0 298 9 [(0, tr 219), (1, .arg 1308), (2, .int 5633)] [.arg 60000, .int 5633, .arg 1308, tr 219], [fr 0 297 75 [(0, tr 219), (1, .arg 1308), (5, .int 1)] [], fr 0 300 36 [(0, tr 219), (1, .arg 1308)] [], fBot], 11), [zf98zzzb_53, zf98zzzb_10, zf98zzzb_54, zf98zzzb_12, zf98zzzb_13, zf98zzzb_14, zf98zzzb_15, ((0, .arg 2816, .int 1), true), zf98zzzb_0, zf98zzzb_1, zf98zzzb_2, zf98zzzb_3, zf98zzzb_4, ((0, .arg 1698, .int 0), true), ((0, .arg 1300, .int 0), true), ((0, .arg 1302, .int 0), true), ((0, .arg 1430, .int 0), true), ((0, .arg 1318, .int 0), true), ((0, .arg 3232, .int 0), true), ((0, .arg 2050, .int 0), true), ((0, .arg 3264, .int 0), true), ((0, .arg 3296, .int 0), true), ((0, .arg 3328, .int 0), true), ((0, .arg 3168, .int 0), true), ((0, .arg 1858, .int 0), true), ((0, .arg 1890, .int 0), true), ((0, .arg 1922, .int 0), true), ((0, .arg 3008, .int 0), true), ((0, .arg 1954, .int 0), true), ((0, .arg 1986, .int 0), true), ((0, .arg 2018, .int 0), true), zf98zzzb_5, ((0, .arg 1702, .int 0), true), ((0, .arg 3360, .int 0), true), ((0, .arg 1350, .int 0), true), ((0, .arg 1826, .int 0), true), zf98zzzb_6, zf98zzzb_7, zf98zzzb_8, zf98zzzb_9, ((0, .arg 1730, .int 0), true)], i_bz)
noncomputable def zf98zzzb_55 : sQ × Bool := ((109, .add (.int 5633) (.int 0), .int 55), true)
noncomputable def zf98zzzb_56 : sQ × Bool := ((109, .add (.int 5633) (.int 1), .int 56), true)
noncomputable def zf98zzzb_57 : sQ × Bool := ((109, .add (.int 5633) (.int 2), .int 57), true)
noncomputable def zf98zzzb_58 : sQ × Bool := ((109, .add (.int 5633) (.int 3), .int 58), true)
noncomputable def zf98zzzb_59 : sQ × Bool := ((109, .add (.int 5633) (.int 4), .int 59), true)
noncomputable def q_ma2o : sCut := ((fr 0 95 34 [(0, tr 75), (1, .int 90), (2, .int 3)] [], [fr 0 93 73 [(0, tr 75)] [], fr 0 60 30 [(0, tr 39), (1, .int 1)] [], fBot], 11), (fr 0 298 9 [(0, tr 219), (1, .arg 1308), (2, .int 5633)] [.arg 60000, .int 5633, .arg 1308, tr 219], [fr 0 297 75 [(0, tr 219), (1, .arg 1308), (5, .int 1)] [], fr 0 300 36 [(0, tr 219), (1, .arg 1308)] [], fBot], 11), [zf98zzzb_55, zf98zzzb_56, zf98zzzb_57, zf98zzzb_58, zf98zzzb_59, zf98zzzb_23, zf98zzzb_24, ((139, .add (.elem (.arg 64353) (.int 0)) (.add (.int 55) (.arg 60000)), .int 0), true), zf98zzzb_53, zf98zzzb_10, zf98zzzb_54, zf98zzzb_12, zf98zzzb_13, zf98zzzb_14, zf98zzzb_15, ((0, .arg 2816, .int 1), true), zf98zzzb_0, zf98zzzb_1, zf98zzzb_2, zf98zzzb_3, zf98zzzb_4, ((0, .arg 1698, .int 0), true), ((0, .arg 1300, .int 0), true), ((0, .arg 1302, .int 0), true), ((0, .arg 1430, .int 0), true), ((0, .arg 1318, .int 0), true), ((0, .arg 3232, .int 0), true), ((0, .arg 2050, .int 0), true), ((0, .arg 3264, .int 0), true), ((0, .arg 3296, .int 0), true), ((0, .arg 3328, .int 0), true), ((0, .arg 3168, .int 0), true), ((0, .arg 1858, .int 0), true), ((0, .arg 1890, .int 0), true), ((0, .arg 1922, .int 0), true), ((0, .arg 3008, .int 0), true), ((0, .arg 1954, .int 0), true), ((0, .arg 1986, .int 0), true), ((0, .arg 2018, .int 0), true), zf98zzzb_5, ((0, .arg 1702, .int 0), true), ((0, .arg 3360, .int 0), true), ((0, .arg 1350, .int 0), true), ((0, .arg 1826, .int 0), true), zf98zzzb_6, zf98zzzb_7, zf98zzzb_8, zf98zzzb_9, ((0, .arg 1730, .int 0), true)], i_bz)
noncomputable def w_ma2o : List (sCut × List (Nat × sT) × List (Nat × sT × List (sT × sT))) := [(q_mm3T, [], [(64321, .arg 64321, []), (64353, .arg 64353, [])])]
theorem k_ma2o : cbody kR [(zWP, c_fndl), (zWB, c_mmo)] (cpl1 zWB c_bn1 [q_mm3T]) (cpl2 zWB c_bn1 [q_mm3T]) (cleafB kR zWB c_bn1 w_ma2o) 700 false false q_ma2o.2.2.1 q_ma2o.2.2.2 (cst zWB c_bn1.2.2.1.1 q_ma2o.1) (cst zWB c_bn1.2.2.1.2 q_ma2o.2.1) = true := by decide +kernel
theorem t_ma2o {X : pX} {ρ0 : sR} (hv : vok X ρ0) : CUTOK X kR zWB c_bn1 13 ρ0 q_ma2o := CUTOK_AT (fun ρ k1 hF hI k4 => AT_of (q := q_ma2o) rfl rfl (SEM_runB kR_x kR_0 (Cs := [(zWP, c_fndl), (zWB, c_mmo)]) (fun C hC => by
    simp only [List.mem_cons, List.not_mem_nil, or_false] at hC
    rcases hC with hC | hC
    · rw [hC]; exact s_fndl
    · rw [hC]; exact s_mmo) c_bn1_f (Q := w_ma2o) hv 700 (b1 := false) (b2 := false) k_ma2o k1 hF hI k4 (fun p hp ρ3 m1 m2 m3 m4 m5 m6 => by
  rw [List.mem_singleton.mp hp] at m2 m3 m5 m6 ⊢
  have eD : ρ3.1 1308 = ρ.1 1308 := (m4.1 1308 (by decide) (by decide)).1.trans (k4.1 1308 (by decide) (by decide)).1.symm
  obtain ⟨d0, d4⟩ := d_r hF.1
  have hA : ∀ j, ρ3.2.2.2.1 64321 j = ρ.2.2.2.1 64321 j := fun j => by
    have hw := m6 (64321, .arg 64321, []) (List.mem_cons_self) j
    have hw : Value.long (ρ3.2.2.2.1 64321 j) = Value.long (ρ.2.2.2.1 64321 j) := hw
    exact Value.long.inj hw
  have hB : ∀ j, ρ3.2.2.2.1 64353 j = ρ.2.2.2.1 64353 j := fun j => by
    have hw := m6 (64353, .arg 64353, []) (List.mem_cons_of_mem _ (List.mem_cons_self)) j
    have hw : Value.long (ρ3.2.2.2.1 64353 j) = Value.long (ρ.2.2.2.1 64353 j) := hw
    exact Value.long.inj hw
  have h7 := k157.mp (hF.2 _ (List.mem_cons_of_mem _ (List.mem_cons_of_mem _ (List.mem_cons_of_mem _ (List.mem_cons_of_mem _ (List.mem_cons_of_mem _ (List.mem_cons_of_mem _ (List.mem_cons_of_mem _ (List.mem_cons_of_mem _ (List.mem_cons_of_mem _ (List.mem_cons_self)))))))))))
  have h8 := k158.mp (hF.2 _ (List.mem_cons_of_mem _ (List.mem_cons_of_mem _ (List.mem_cons_of_mem _ (List.mem_cons_of_mem _ (List.mem_cons_of_mem _ (List.mem_cons_of_mem _ (List.mem_cons_of_mem _ (List.mem_cons_of_mem _ (List.mem_cons_of_mem _ (List.mem_cons_of_mem _ (List.mem_cons_self))))))))))))
  have h5 := k155.mp (hF.2 _ (List.mem_cons_of_mem _ (List.mem_cons_of_mem _ (List.mem_cons_of_mem _ (List.mem_cons_of_mem _ (List.mem_cons_of_mem _ (List.mem_cons_of_mem _ (List.mem_cons_of_mem _ (List.mem_cons_of_mem _ (List.mem_cons_of_mem _ (List.mem_cons_of_mem _ (List.mem_cons_of_mem _ (List.mem_cons_self)))))))))))))
  obtain ⟨v0, v4⟩ := ev_m4 (m := 55) (by decide) (h5 55 (by decide))
  have en : ρ.1 60000 = (ρ.2.2.2.1 64353 55).toInt32 := of_decide_eq_true (hF.2 _ (List.mem_cons_of_mem _ (List.mem_cons_of_mem _ (List.mem_cons_of_mem _ (List.mem_cons_of_mem _ (List.mem_cons_of_mem _ (List.mem_cons_of_mem _ (List.mem_cons_of_mem _ (List.mem_cons_of_mem _ (List.mem_cons_self))))))))))
  have hc : (0 : Int) = amcode (ρ.2.2.2.1 64353) 55 (ρ.1 60000).toInt.toNat := of_decide_eq_true (hF.2 _ (List.mem_cons_of_mem _ (List.mem_cons_of_mem _ (List.mem_cons_of_mem _ (List.mem_cons_of_mem _ (List.mem_cons_of_mem _ (List.mem_cons_of_mem _ (List.mem_cons_of_mem _ (List.mem_cons_self)))))))))
  rw [en, mv_l v0 (by omega)] at hc
  have eA : ρ3.2.2.2.1 64321 = ρ.2.2.2.1 64321 := funext hA
  have eB : ρ3.2.2.2.1 64353 = ρ.2.2.2.1 64353 := funext hB
  have x7 : sc X ρ3 (157, .add (.elem (.arg 64321) (.int 0)) (.add (.elem (.arg 64353) (.int 0)) (.arg 1308)), .int 8) = true := k157.mpr (by rw [eA, eB, eD]; exact h7)
  have x8 : sc X ρ3 (158, .elem (.arg 64353) (.int 0), .int 3) = true := k158.mpr (by rw [eB]; exact ampm_t (K := 2) (m := 55) rfl h8 hc.symm)
  have x5 : sc X ρ3 (155, .elem (.arg 64353) (.int 0), .int 0) = true := k155.mpr (by rw [eB]; exact h5)
  have z1 : sc X ρ3 (6, .elem (.arg 64321) (.int 1), .long 0) = true := decide_eq_true (show ρ3.2.2.2.1 64321 1 = 0 by
    rw [hA]
    exact of_decide_eq_true (hF.2 _ (List.mem_cons_of_mem _ (List.mem_cons_of_mem _ (List.mem_cons_of_mem _ (List.mem_cons_of_mem _ (List.mem_cons_of_mem _ (List.mem_cons_of_mem _ (List.mem_cons_of_mem _ (List.mem_cons_of_mem _ (List.mem_cons_of_mem _ (List.mem_cons_of_mem _ (List.mem_cons_of_mem _ (List.mem_cons_of_mem _ (List.mem_cons_self)))))))))))))))
  have z2 : sc X ρ3 (6, .elem (.arg 64353) (.int 114), .long 0) = true := decide_eq_true (show ρ3.2.2.2.1 64353 114 = 0 by
    rw [hB]
    exact of_decide_eq_true (hF.2 _ (List.mem_cons_of_mem _ (List.mem_cons_of_mem _ (List.mem_cons_of_mem _ (List.mem_cons_of_mem _ (List.mem_cons_of_mem _ (List.mem_cons_of_mem _ (List.mem_cons_of_mem _ (List.mem_cons_of_mem _ (List.mem_cons_of_mem _ (List.mem_cons_of_mem _ (List.mem_cons_of_mem _ (List.mem_cons_of_mem _ (List.mem_cons_of_mem _ (List.mem_cons_self))))))))))))))))
  have z3 : sc X ρ3 (6, .elem (.arg 64353) (.int 123), .long 0) = true := decide_eq_true (show ρ3.2.2.2.1 64353 123 = 0 by
    rw [hB]
    exact of_decide_eq_true (hF.2 _ (List.mem_cons_of_mem _ (List.mem_cons_of_mem _ (List.mem_cons_of_mem _ (List.mem_cons_of_mem _ (List.mem_cons_of_mem _ (List.mem_cons_of_mem _ (List.mem_cons_of_mem _ (List.mem_cons_of_mem _ (List.mem_cons_of_mem _ (List.mem_cons_of_mem _ (List.mem_cons_of_mem _ (List.mem_cons_of_mem _ (List.mem_cons_of_mem _ (List.mem_cons_of_mem _ (List.mem_cons_self)))))))))))))))))
  exact t_mm3 hv ρ3 m1 ⟨m2.1, fcn (x7) (fcn (x8) (fcn (x5) (fcn (z1) (fcn (z2) (fcn (z3) (m2.2))))))⟩ m3 m4)))
noncomputable def q_ma2n : sCut := ((fr 0 95 34 [(0, tr 75), (1, .int 90), (2, .int 3)] [], [fr 0 93 73 [(0, tr 75)] [], fr 0 60 30 [(0, tr 39), (1, .int 1)] [], fBot], 11), (fr 0 298 9 [(0, tr 219), (1, .arg 1308), (2, .int 5633)] [.arg 60000, .int 5633, .arg 1308, tr 219], [fr 0 297 75 [(0, tr 219), (1, .arg 1308), (5, .int 1)] [], fr 0 300 36 [(0, tr 219), (1, .arg 1308)] [], fBot], 11), [zf98zzzb_55, zf98zzzb_56, zf98zzzb_57, zf98zzzb_58, zf98zzzb_59, zf98zzzb_23, zf98zzzb_24, ((139, .add (.elem (.arg 64353) (.int 0)) (.add (.int 55) (.arg 60000)), .int 100925505), true), zf98zzzb_53, zf98zzzb_10, zf98zzzb_54, zf98zzzb_12, zf98zzzb_13, zf98zzzb_14, zf98zzzb_15, ((0, .arg 2816, .int 1), true), zf98zzzb_0, zf98zzzb_1, zf98zzzb_2, zf98zzzb_3, zf98zzzb_4, ((0, .arg 1698, .int 0), true), ((0, .arg 1300, .int 0), true), ((0, .arg 1302, .int 0), true), ((0, .arg 1430, .int 0), true), ((0, .arg 1318, .int 0), true), ((0, .arg 3232, .int 0), true), ((0, .arg 2050, .int 0), true), ((0, .arg 3264, .int 0), true), ((0, .arg 3296, .int 0), true), ((0, .arg 3328, .int 0), true), ((0, .arg 3168, .int 0), true), ((0, .arg 1858, .int 0), true), ((0, .arg 1890, .int 0), true), ((0, .arg 1922, .int 0), true), ((0, .arg 3008, .int 0), true), ((0, .arg 1954, .int 0), true), ((0, .arg 1986, .int 0), true), ((0, .arg 2018, .int 0), true), zf98zzzb_5, ((0, .arg 1702, .int 0), true), ((0, .arg 3360, .int 0), true), ((0, .arg 1350, .int 0), true), ((0, .arg 1826, .int 0), true), zf98zzzb_6, zf98zzzb_7, zf98zzzb_8, zf98zzzb_9, ((0, .arg 1730, .int 0), true)], i_bz)
noncomputable def w_ma2n : List (sCut × List (Nat × sT) × List (Nat × sT × List (sT × sT))) := [(q_mm3T, [], [(64321, .arg 64321, []), (64353, .arg 64353, [(.int 59, .long 0), (.int 58, .long 0), (.int 57, .long 0), (.int 56, .long 0), (.int 55, .long 0)])])]
theorem k_ma2n : cbody kR [(zWP, c_fndl), (zWB, c_mmn)] (cpl1 zWB c_bn1 [q_mm3T]) (cpl2 zWB c_bn1 [q_mm3T]) (cleafB kR zWB c_bn1 w_ma2n) 700 false false q_ma2n.2.2.1 q_ma2n.2.2.2 (cst zWB c_bn1.2.2.1.1 q_ma2n.1) (cst zWB c_bn1.2.2.1.2 q_ma2n.2.1) = true := by decide +kernel
theorem t_ma2n {X : pX} {ρ0 : sR} (hv : vok X ρ0) : CUTOK X kR zWB c_bn1 13 ρ0 q_ma2n := CUTOK_AT (fun ρ k1 hF hI k4 => AT_of (q := q_ma2n) rfl rfl (SEM_runB kR_x kR_0 (Cs := [(zWP, c_fndl), (zWB, c_mmn)]) (fun C hC => by
    simp only [List.mem_cons, List.not_mem_nil, or_false] at hC
    rcases hC with hC | hC
    · rw [hC]; exact s_fndl
    · rw [hC]; exact s_mmn) c_bn1_f (Q := w_ma2n) hv 700 (b1 := false) (b2 := false) k_ma2n k1 hF hI k4 (fun p hp ρ3 m1 m2 m3 m4 m5 m6 => by
  rw [List.mem_singleton.mp hp] at m2 m3 m5 m6 ⊢
  have eD : ρ3.1 1308 = ρ.1 1308 := (m4.1 1308 (by decide) (by decide)).1.trans (k4.1 1308 (by decide) (by decide)).1.symm
  obtain ⟨d0, d4⟩ := d_r hF.1
  have hA : ∀ j, ρ3.2.2.2.1 64321 j = ρ.2.2.2.1 64321 j := fun j => by
    have hw := m6 (64321, .arg 64321, []) (List.mem_cons_self) j
    have hw : Value.long (ρ3.2.2.2.1 64321 j) = Value.long (ρ.2.2.2.1 64321 j) := hw
    exact Value.long.inj hw
  obtain ⟨hBn, hBf⟩ := fiv_w (f := ρ.2.2.2.1 64353) (g := ρ3.2.2.2.1 64353) (m := 55) (d := (ρ.1 1308).toInt) (v0 := 0) (v1 := 0) (v2 := 0) (v3 := 0) (v4 := 0) (fun j => m6 (64353, .arg 64353, [(.int 59, .long 0), (.int 58, .long 0), (.int 57, .long 0), (.int 56, .long 0), (.int 55, .long 0)]) (List.mem_cons_of_mem _ (List.mem_cons_self)) j) (amw_55 d0 d4 (i := 0) (by decide)) (amw_55 d0 d4 (i := 1) (by decide)) (amw_55 d0 d4 (i := 2) (by decide)) (amw_55 d0 d4 (i := 3) (by decide)) (amw_55 d0 d4 (i := 4) (by decide))
  have h7 := k157.mp (hF.2 _ (List.mem_cons_of_mem _ (List.mem_cons_of_mem _ (List.mem_cons_of_mem _ (List.mem_cons_of_mem _ (List.mem_cons_of_mem _ (List.mem_cons_of_mem _ (List.mem_cons_of_mem _ (List.mem_cons_of_mem _ (List.mem_cons_of_mem _ (List.mem_cons_self)))))))))))
  have h8 := k158.mp (hF.2 _ (List.mem_cons_of_mem _ (List.mem_cons_of_mem _ (List.mem_cons_of_mem _ (List.mem_cons_of_mem _ (List.mem_cons_of_mem _ (List.mem_cons_of_mem _ (List.mem_cons_of_mem _ (List.mem_cons_of_mem _ (List.mem_cons_of_mem _ (List.mem_cons_of_mem _ (List.mem_cons_self))))))))))))
  have h5 := k155.mp (hF.2 _ (List.mem_cons_of_mem _ (List.mem_cons_of_mem _ (List.mem_cons_of_mem _ (List.mem_cons_of_mem _ (List.mem_cons_of_mem _ (List.mem_cons_of_mem _ (List.mem_cons_of_mem _ (List.mem_cons_of_mem _ (List.mem_cons_of_mem _ (List.mem_cons_of_mem _ (List.mem_cons_of_mem _ (List.mem_cons_self)))))))))))))
  obtain ⟨v0, v4⟩ := ev_m4 (m := 55) (by decide) (h5 55 (by decide))
  have en : ρ.1 60000 = (ρ.2.2.2.1 64353 55).toInt32 := of_decide_eq_true (hF.2 _ (List.mem_cons_of_mem _ (List.mem_cons_of_mem _ (List.mem_cons_of_mem _ (List.mem_cons_of_mem _ (List.mem_cons_of_mem _ (List.mem_cons_of_mem _ (List.mem_cons_of_mem _ (List.mem_cons_of_mem _ (List.mem_cons_self))))))))))
  have hc : (100925505 : Int) = amcode (ρ.2.2.2.1 64353) 55 (ρ.1 60000).toInt.toNat := of_decide_eq_true (hF.2 _ (List.mem_cons_of_mem _ (List.mem_cons_of_mem _ (List.mem_cons_of_mem _ (List.mem_cons_of_mem _ (List.mem_cons_of_mem _ (List.mem_cons_of_mem _ (List.mem_cons_of_mem _ (List.mem_cons_self)))))))))
  rw [en, mv_l v0 (by omega)] at hc
  have hm : 55 ∈ amps := by decide
  have hn : ¬ amcode (ρ.2.2.2.1 64353) 55 (ρ.2.2.2.1 64353 55).toInt.toNat = 0 := by rw [← hc]; decide
  have eA : ρ3.2.2.2.1 64321 = ρ.2.2.2.1 64321 := funext hA
  have x7 : sc X ρ3 (157, .add (.elem (.arg 64321) (.int 0)) (.add (.elem (.arg 64353) (.int 0)) (.arg 1308)), .int 8) = true := k157.mpr (by rw [eA, eD]; exact amn_m d0 d4 hm h7 h5 hn (fun j _ hj => hBn j hj) hBf)
  have x8 : sc X ρ3 (158, .elem (.arg 64353) (.int 0), .int 3) = true := k158.mpr (ampm_t (K := 2) (m := 55) rfl (fun x hx => by
    have hx2 : x ∈ amps := of_decide_eq_true (List.all_eq_true.mp ampm_i x (List.mem_of_mem_take hx))
    by_cases e : x = 55
    · rw [e]; exact amf_0 d0 d4 hm hBf
    · rw [amo_c hm hx2 e h5 (fun j _ hj => hBn j hj)]; exact h8 x hx) (amf_0 d0 d4 hm hBf))
  have x5 : sc X ρ3 (155, .elem (.arg 64353) (.int 0), .int 0) = true := k155.mpr (fun j hj => by
    by_cases hi : 55 ≤ j ∧ j < 55 + 5
    · rw [hBf j hi.1 hi.2]; exact evf_k d0 d4 hj
    · rw [hBn j hi]; exact h5 j hj)
  have z1 : sc X ρ3 (6, .elem (.arg 64321) (.int 1), .long 0) = true := decide_eq_true (show ρ3.2.2.2.1 64321 1 = 0 by
    rw [hA]
    exact of_decide_eq_true (hF.2 _ (List.mem_cons_of_mem _ (List.mem_cons_of_mem _ (List.mem_cons_of_mem _ (List.mem_cons_of_mem _ (List.mem_cons_of_mem _ (List.mem_cons_of_mem _ (List.mem_cons_of_mem _ (List.mem_cons_of_mem _ (List.mem_cons_of_mem _ (List.mem_cons_of_mem _ (List.mem_cons_of_mem _ (List.mem_cons_of_mem _ (List.mem_cons_self)))))))))))))))
  have z2 : sc X ρ3 (6, .elem (.arg 64353) (.int 114), .long 0) = true := decide_eq_true (show ρ3.2.2.2.1 64353 114 = 0 by
    rw [hBn 114 (by decide)]
    exact of_decide_eq_true (hF.2 _ (List.mem_cons_of_mem _ (List.mem_cons_of_mem _ (List.mem_cons_of_mem _ (List.mem_cons_of_mem _ (List.mem_cons_of_mem _ (List.mem_cons_of_mem _ (List.mem_cons_of_mem _ (List.mem_cons_of_mem _ (List.mem_cons_of_mem _ (List.mem_cons_of_mem _ (List.mem_cons_of_mem _ (List.mem_cons_of_mem _ (List.mem_cons_of_mem _ (List.mem_cons_self))))))))))))))))
  have z3 : sc X ρ3 (6, .elem (.arg 64353) (.int 123), .long 0) = true := decide_eq_true (show ρ3.2.2.2.1 64353 123 = 0 by
    rw [hBn 123 (by decide)]
    exact of_decide_eq_true (hF.2 _ (List.mem_cons_of_mem _ (List.mem_cons_of_mem _ (List.mem_cons_of_mem _ (List.mem_cons_of_mem _ (List.mem_cons_of_mem _ (List.mem_cons_of_mem _ (List.mem_cons_of_mem _ (List.mem_cons_of_mem _ (List.mem_cons_of_mem _ (List.mem_cons_of_mem _ (List.mem_cons_of_mem _ (List.mem_cons_of_mem _ (List.mem_cons_of_mem _ (List.mem_cons_of_mem _ (List.mem_cons_self)))))))))))))))))
  exact t_mm3 hv ρ3 m1 ⟨m2.1, fcn (x7) (fcn (x8) (fcn (x5) (fcn (z1) (fcn (z2) (fcn (z3) (m2.2))))))⟩ m3 m4)))
noncomputable def q_ma2l : sCut := ((fr 0 95 34 [(0, tr 75), (1, .int 90), (2, .int 3)] [], [fr 0 93 73 [(0, tr 75)] [], fr 0 60 30 [(0, tr 39), (1, .int 1)] [], fBot], 11), (fr 0 298 9 [(0, tr 219), (1, .arg 1308), (2, .int 5633)] [.arg 60000, .int 5633, .arg 1308, tr 219], [fr 0 297 75 [(0, tr 219), (1, .arg 1308), (5, .int 1)] [], fr 0 300 36 [(0, tr 219), (1, .arg 1308)] [], fBot], 11), [zf98zzzb_55, zf98zzzb_56, zf98zzzb_57, zf98zzzb_58, zf98zzzb_59, zf98zzzb_23, zf98zzzb_24, ((139, .add (.elem (.arg 64353) (.int 0)) (.add (.int 55) (.arg 60000)), .int 100925506), true), zf98zzzb_53, zf98zzzb_10, zf98zzzb_54, zf98zzzb_12, zf98zzzb_13, zf98zzzb_14, zf98zzzb_15, ((0, .arg 2816, .int 1), true), zf98zzzb_0, zf98zzzb_1, zf98zzzb_2, zf98zzzb_3, zf98zzzb_4, ((0, .arg 1698, .int 0), true), ((0, .arg 1300, .int 0), true), ((0, .arg 1302, .int 0), true), ((0, .arg 1430, .int 0), true), ((0, .arg 1318, .int 0), true), ((0, .arg 3232, .int 0), true), ((0, .arg 2050, .int 0), true), ((0, .arg 3264, .int 0), true), ((0, .arg 3296, .int 0), true), ((0, .arg 3328, .int 0), true), ((0, .arg 3168, .int 0), true), ((0, .arg 1858, .int 0), true), ((0, .arg 1890, .int 0), true), ((0, .arg 1922, .int 0), true), ((0, .arg 3008, .int 0), true), ((0, .arg 1954, .int 0), true), ((0, .arg 1986, .int 0), true), ((0, .arg 2018, .int 0), true), zf98zzzb_5, ((0, .arg 1702, .int 0), true), ((0, .arg 3360, .int 0), true), ((0, .arg 1350, .int 0), true), ((0, .arg 1826, .int 0), true), zf98zzzb_6, zf98zzzb_7, zf98zzzb_8, zf98zzzb_9, ((0, .arg 1730, .int 0), true)], i_bz)
noncomputable def w_ma2l : List (sCut × List (Nat × sT) × List (Nat × sT × List (sT × sT))) := [(q_mm3T, [], [(64321, .arg 64321, []), (64353, .arg 64353, [(.int 59, .long 0), (.int 58, .long 0), (.int 57, .long 0), (.int 56, .long 0), (.int 55, .long 0)])])]
theorem k_ma2l : cbody kR [(zWP, c_fndl), (zWB, c_mml)] (cpl1 zWB c_bn1 [q_mm3T]) (cpl2 zWB c_bn1 [q_mm3T]) (cleafB kR zWB c_bn1 w_ma2l) 700 false false q_ma2l.2.2.1 q_ma2l.2.2.2 (cst zWB c_bn1.2.2.1.1 q_ma2l.1) (cst zWB c_bn1.2.2.1.2 q_ma2l.2.1) = true := by decide +kernel
theorem t_ma2l {X : pX} {ρ0 : sR} (hv : vok X ρ0) : CUTOK X kR zWB c_bn1 13 ρ0 q_ma2l := CUTOK_AT (fun ρ k1 hF hI k4 => AT_of (q := q_ma2l) rfl rfl (SEM_runB kR_x kR_0 (Cs := [(zWP, c_fndl), (zWB, c_mml)]) (fun C hC => by
    simp only [List.mem_cons, List.not_mem_nil, or_false] at hC
    rcases hC with hC | hC
    · rw [hC]; exact s_fndl
    · rw [hC]; exact s_mml) c_bn1_f (Q := w_ma2l) hv 700 (b1 := false) (b2 := false) k_ma2l k1 hF hI k4 (fun p hp ρ3 m1 m2 m3 m4 m5 m6 => by
  rw [List.mem_singleton.mp hp] at m2 m3 m5 m6 ⊢
  have eD : ρ3.1 1308 = ρ.1 1308 := (m4.1 1308 (by decide) (by decide)).1.trans (k4.1 1308 (by decide) (by decide)).1.symm
  obtain ⟨d0, d4⟩ := d_r hF.1
  have hA : ∀ j, ρ3.2.2.2.1 64321 j = ρ.2.2.2.1 64321 j := fun j => by
    have hw := m6 (64321, .arg 64321, []) (List.mem_cons_self) j
    have hw : Value.long (ρ3.2.2.2.1 64321 j) = Value.long (ρ.2.2.2.1 64321 j) := hw
    exact Value.long.inj hw
  obtain ⟨hBn, hBf⟩ := fiv_w (f := ρ.2.2.2.1 64353) (g := ρ3.2.2.2.1 64353) (m := 55) (d := (ρ.1 1308).toInt) (v0 := 0) (v1 := 0) (v2 := 0) (v3 := 0) (v4 := 0) (fun j => m6 (64353, .arg 64353, [(.int 59, .long 0), (.int 58, .long 0), (.int 57, .long 0), (.int 56, .long 0), (.int 55, .long 0)]) (List.mem_cons_of_mem _ (List.mem_cons_self)) j) (amw_55 d0 d4 (i := 0) (by decide)) (amw_55 d0 d4 (i := 1) (by decide)) (amw_55 d0 d4 (i := 2) (by decide)) (amw_55 d0 d4 (i := 3) (by decide)) (amw_55 d0 d4 (i := 4) (by decide))
  have h7 := k157.mp (hF.2 _ (List.mem_cons_of_mem _ (List.mem_cons_of_mem _ (List.mem_cons_of_mem _ (List.mem_cons_of_mem _ (List.mem_cons_of_mem _ (List.mem_cons_of_mem _ (List.mem_cons_of_mem _ (List.mem_cons_of_mem _ (List.mem_cons_of_mem _ (List.mem_cons_self)))))))))))
  have h8 := k158.mp (hF.2 _ (List.mem_cons_of_mem _ (List.mem_cons_of_mem _ (List.mem_cons_of_mem _ (List.mem_cons_of_mem _ (List.mem_cons_of_mem _ (List.mem_cons_of_mem _ (List.mem_cons_of_mem _ (List.mem_cons_of_mem _ (List.mem_cons_of_mem _ (List.mem_cons_of_mem _ (List.mem_cons_self))))))))))))
  have h5 := k155.mp (hF.2 _ (List.mem_cons_of_mem _ (List.mem_cons_of_mem _ (List.mem_cons_of_mem _ (List.mem_cons_of_mem _ (List.mem_cons_of_mem _ (List.mem_cons_of_mem _ (List.mem_cons_of_mem _ (List.mem_cons_of_mem _ (List.mem_cons_of_mem _ (List.mem_cons_of_mem _ (List.mem_cons_of_mem _ (List.mem_cons_self)))))))))))))
  obtain ⟨v0, v4⟩ := ev_m4 (m := 55) (by decide) (h5 55 (by decide))
  have en : ρ.1 60000 = (ρ.2.2.2.1 64353 55).toInt32 := of_decide_eq_true (hF.2 _ (List.mem_cons_of_mem _ (List.mem_cons_of_mem _ (List.mem_cons_of_mem _ (List.mem_cons_of_mem _ (List.mem_cons_of_mem _ (List.mem_cons_of_mem _ (List.mem_cons_of_mem _ (List.mem_cons_of_mem _ (List.mem_cons_self))))))))))
  have hc : (100925506 : Int) = amcode (ρ.2.2.2.1 64353) 55 (ρ.1 60000).toInt.toNat := of_decide_eq_true (hF.2 _ (List.mem_cons_of_mem _ (List.mem_cons_of_mem _ (List.mem_cons_of_mem _ (List.mem_cons_of_mem _ (List.mem_cons_of_mem _ (List.mem_cons_of_mem _ (List.mem_cons_of_mem _ (List.mem_cons_self)))))))))
  rw [en, mv_l v0 (by omega)] at hc
  have hm : 55 ∈ amps := by decide
  have hn : ¬ amcode (ρ.2.2.2.1 64353) 55 (ρ.2.2.2.1 64353 55).toInt.toNat = 0 := by rw [← hc]; decide
  have eA : ρ3.2.2.2.1 64321 = ρ.2.2.2.1 64321 := funext hA
  have x7 : sc X ρ3 (157, .add (.elem (.arg 64321) (.int 0)) (.add (.elem (.arg 64353) (.int 0)) (.arg 1308)), .int 8) = true := k157.mpr (by rw [eA, eD]; exact amn_m d0 d4 hm h7 h5 hn (fun j _ hj => hBn j hj) hBf)
  have x8 : sc X ρ3 (158, .elem (.arg 64353) (.int 0), .int 3) = true := k158.mpr (ampm_t (K := 2) (m := 55) rfl (fun x hx => by
    have hx2 : x ∈ amps := of_decide_eq_true (List.all_eq_true.mp ampm_i x (List.mem_of_mem_take hx))
    by_cases e : x = 55
    · rw [e]; exact amf_0 d0 d4 hm hBf
    · rw [amo_c hm hx2 e h5 (fun j _ hj => hBn j hj)]; exact h8 x hx) (amf_0 d0 d4 hm hBf))
  have x5 : sc X ρ3 (155, .elem (.arg 64353) (.int 0), .int 0) = true := k155.mpr (fun j hj => by
    by_cases hi : 55 ≤ j ∧ j < 55 + 5
    · rw [hBf j hi.1 hi.2]; exact evf_k d0 d4 hj
    · rw [hBn j hi]; exact h5 j hj)
  have z1 : sc X ρ3 (6, .elem (.arg 64321) (.int 1), .long 0) = true := decide_eq_true (show ρ3.2.2.2.1 64321 1 = 0 by
    rw [hA]
    exact of_decide_eq_true (hF.2 _ (List.mem_cons_of_mem _ (List.mem_cons_of_mem _ (List.mem_cons_of_mem _ (List.mem_cons_of_mem _ (List.mem_cons_of_mem _ (List.mem_cons_of_mem _ (List.mem_cons_of_mem _ (List.mem_cons_of_mem _ (List.mem_cons_of_mem _ (List.mem_cons_of_mem _ (List.mem_cons_of_mem _ (List.mem_cons_of_mem _ (List.mem_cons_self)))))))))))))))
  have z2 : sc X ρ3 (6, .elem (.arg 64353) (.int 114), .long 0) = true := decide_eq_true (show ρ3.2.2.2.1 64353 114 = 0 by
    rw [hBn 114 (by decide)]
    exact of_decide_eq_true (hF.2 _ (List.mem_cons_of_mem _ (List.mem_cons_of_mem _ (List.mem_cons_of_mem _ (List.mem_cons_of_mem _ (List.mem_cons_of_mem _ (List.mem_cons_of_mem _ (List.mem_cons_of_mem _ (List.mem_cons_of_mem _ (List.mem_cons_of_mem _ (List.mem_cons_of_mem _ (List.mem_cons_of_mem _ (List.mem_cons_of_mem _ (List.mem_cons_of_mem _ (List.mem_cons_self))))))))))))))))
  have z3 : sc X ρ3 (6, .elem (.arg 64353) (.int 123), .long 0) = true := decide_eq_true (show ρ3.2.2.2.1 64353 123 = 0 by
    rw [hBn 123 (by decide)]
    exact of_decide_eq_true (hF.2 _ (List.mem_cons_of_mem _ (List.mem_cons_of_mem _ (List.mem_cons_of_mem _ (List.mem_cons_of_mem _ (List.mem_cons_of_mem _ (List.mem_cons_of_mem _ (List.mem_cons_of_mem _ (List.mem_cons_of_mem _ (List.mem_cons_of_mem _ (List.mem_cons_of_mem _ (List.mem_cons_of_mem _ (List.mem_cons_of_mem _ (List.mem_cons_of_mem _ (List.mem_cons_of_mem _ (List.mem_cons_self)))))))))))))))))
  exact t_mm3 hv ρ3 m1 ⟨m2.1, fcn (x7) (fcn (x8) (fcn (x5) (fcn (z1) (fcn (z2) (fcn (z3) (m2.2))))))⟩ m3 m4)))
theorem t_ma2 {X : pX} {ρ0 : sR} (hv : vok X ρ0) : CUTOK X kR zWB c_bn1 13 ρ0 q_ma2 := fun ρ k1 hF hI k4 => by
  have h5 := k155.mp (hF.2 _ (List.mem_cons_of_mem _ (List.mem_cons_of_mem _ (List.mem_cons_of_mem _ (List.mem_cons_self)))))
  obtain ⟨v0, v4⟩ := ev_m4 (m := 55) (by decide) (h5 55 (by decide))
  have f0 := s9_n (X := X) (ρ := ρ) (ix := 5633) (s := 0) (p := 55) (by decide +kernel)
  have f1 := s9_n (X := X) (ρ := ρ) (ix := 5633) (s := 1) (p := 56) (by decide +kernel)
  have f2 := s9_n (X := X) (ρ := ρ) (ix := 5633) (s := 2) (p := 57) (by decide +kernel)
  have f3 := s9_n (X := X) (ρ := ρ) (ix := 5633) (s := 3) (p := 58) (by decide +kernel)
  have f4 := s9_n (X := X) (ρ := ρ) (ix := 5633) (s := 4) (p := 59) (by decide +kernel)
  have en : ρ.1 60000 = (ρ.2.2.2.1 64353 55).toInt32 := of_decide_eq_true (hF.2 _ (List.mem_cons_self))
  have ev : (ρ.1 60000).toInt = (ρ.2.2.2.1 64353 55).toInt := by rw [en]; exact mv_l v0 (by omega)
  rcases am_3 (g := ρ.2.2.2.1 64353) (m := 55) (n := (ρ.1 60000).toInt.toNat) with h | h | h
  · exact t_ma2o hv ρ k1 ⟨hF.1, fcn (f0) (fcn (f1) (fcn (f2) (fcn (f3) (fcn (f4) (fcn (di_lf (x := ρ.1 60000) (y := 0) (by rw [ev]; show (0 : Int) ≤ _; exact v0)) (fcn (di_lf (x := 4) (y := ρ.1 60000) (by rw [ev]; show _ ≤ (4 : Int); exact v4)) (fcn (decide_eq_true (show (0 : Int) = amcode (ρ.2.2.2.1 64353) 55 (ρ.1 60000).toInt.toNat from h.symm)) (hF.2))))))))⟩ hI k4
  · exact t_ma2n hv ρ k1 ⟨hF.1, fcn (f0) (fcn (f1) (fcn (f2) (fcn (f3) (fcn (f4) (fcn (di_lf (x := ρ.1 60000) (y := 0) (by rw [ev]; show (0 : Int) ≤ _; exact v0)) (fcn (di_lf (x := 4) (y := ρ.1 60000) (by rw [ev]; show _ ≤ (4 : Int); exact v4)) (fcn (decide_eq_true (show (100925505 : Int) = amcode (ρ.2.2.2.1 64353) 55 (ρ.1 60000).toInt.toNat from h.symm)) (hF.2))))))))⟩ hI k4
  · exact t_ma2l hv ρ k1 ⟨hF.1, fcn (f0) (fcn (f1) (fcn (f2) (fcn (f3) (fcn (f4) (fcn (di_lf (x := ρ.1 60000) (y := 0) (by rw [ev]; show (0 : Int) ≤ _; exact v0)) (fcn (di_lf (x := 4) (y := ρ.1 60000) (by rw [ev]; show _ ≤ (4 : Int); exact v4)) (fcn (decide_eq_true (show (100925506 : Int) = amcode (ρ.2.2.2.1 64353) 55 (ρ.1 60000).toInt.toNat from h.symm)) (hF.2))))))))⟩ hI k4
noncomputable def q_mm2 : sCut := ((fr 0 95 34 [(0, tr 75), (1, .int 90), (2, .int 3)] [], [fr 0 93 73 [(0, tr 75)] [], fr 0 60 30 [(0, tr 39), (1, .int 1)] [], fBot], 11), (fr 0 297 81 [(0, tr 219), (1, .arg 1308), (5, .int 0)] [], [fr 0 300 36 [(0, tr 219), (1, .arg 1308)] [], fBot], 12), [zf98zzzb_10, zf98zzzb_54, zf98zzzb_12, zf98zzzb_13, zf98zzzb_14, zf98zzzb_15, ((0, .arg 2816, .int 1), true), zf98zzzb_0, zf98zzzb_1, zf98zzzb_2, zf98zzzb_3, zf98zzzb_4, ((0, .arg 1698, .int 0), true), ((0, .arg 1300, .int 0), true), ((0, .arg 1302, .int 0), true), ((0, .arg 1430, .int 0), true), ((0, .arg 1318, .int 0), true), ((0, .arg 3232, .int 0), true), ((0, .arg 2050, .int 0), true), ((0, .arg 3264, .int 0), true), ((0, .arg 3296, .int 0), true), ((0, .arg 3328, .int 0), true), ((0, .arg 3168, .int 0), true), ((0, .arg 1858, .int 0), true), ((0, .arg 1890, .int 0), true), ((0, .arg 1922, .int 0), true), ((0, .arg 3008, .int 0), true), ((0, .arg 1954, .int 0), true), ((0, .arg 1986, .int 0), true), ((0, .arg 2018, .int 0), true), zf98zzzb_5, ((0, .arg 1702, .int 0), true), ((0, .arg 3360, .int 0), true), ((0, .arg 1350, .int 0), true), ((0, .arg 1826, .int 0), true), zf98zzzb_6, zf98zzzb_7, zf98zzzb_8, zf98zzzb_9, ((0, .arg 1730, .int 0), true)], i_bz)
noncomputable def q_mm2g : sCut := ((fr 0 95 34 [(0, tr 75), (1, .int 90), (2, .int 3)] [], [fr 0 93 73 [(0, tr 75)] [], fr 0 60 30 [(0, tr 39), (1, .int 1)] [], fBot], 11), (fr 0 297 81 [(0, tr 219), (1, .arg 1308), (5, .int 0)] [], [fr 0 300 36 [(0, tr 219), (1, .arg 1308)] [], fBot], 12), [zf98zzzb_55, zf98zzzb_10, zf98zzzb_54, zf98zzzb_12, zf98zzzb_13, zf98zzzb_14, zf98zzzb_15, ((0, .arg 2816, .int 1), true), zf98zzzb_0, zf98zzzb_1, zf98zzzb_2, zf98zzzb_3, zf98zzzb_4, ((0, .arg 1698, .int 0), true), ((0, .arg 1300, .int 0), true), ((0, .arg 1302, .int 0), true), ((0, .arg 1430, .int 0), true), ((0, .arg 1318, .int 0), true), ((0, .arg 3232, .int 0), true), ((0, .arg 2050, .int 0), true), ((0, .arg 3264, .int 0), true), ((0, .arg 3296, .int 0), true), ((0, .arg 3328, .int 0), true), ((0, .arg 3168, .int 0), true), ((0, .arg 1858, .int 0), true), ((0, .arg 1890, .int 0), true), ((0, .arg 1922, .int 0), true), ((0, .arg 3008, .int 0), true), ((0, .arg 1954, .int 0), true), ((0, .arg 1986, .int 0), true), ((0, .arg 2018, .int 0), true), zf98zzzb_5, ((0, .arg 1702, .int 0), true), ((0, .arg 3360, .int 0), true), ((0, .arg 1350, .int 0), true), ((0, .arg 1826, .int 0), true), zf98zzzb_6, zf98zzzb_7, zf98zzzb_8, zf98zzzb_9, ((0, .arg 1730, .int 0), true)], i_bz)
theorem k_mm2g : cbody kR [(zWP, c_fndl)] (cpl1 zWB c_bn1 [q_ma2]) (cpl2 zWB c_bn1 [q_ma2]) (cleaf kR zWB c_bn1 [q_ma2]) 200 false true q_mm2g.2.2.1 q_mm2g.2.2.2 (cst zWB c_bn1.2.2.1.1 q_mm2g.1) (cst zWB c_bn1.2.2.1.2 q_mm2g.2.1) = true := by decide +kernel
theorem t_mm2g {X : pX} {ρ0 : sR} (hv : vok X ρ0) : CUTOK X kR zWB c_bn1 13 ρ0 q_mm2g := CUT_run kR_x kR_0 (Cs := [(zWP, c_fndl)]) (fun C hC => by rw [List.mem_singleton.mp hC]; exact s_fndl) c_bn1_f (Q := [q_ma2]) hv (fun q hq => by
    simp only [List.mem_cons, List.not_mem_nil, or_false] at hq
    rw [hq]; exact t_ma2 hv) 200 (b1 := false) (b2 := true) k_mm2g
theorem t_mm2 {X : pX} {ρ0 : sR} (hv : vok X ρ0) : CUTOK X kR zWB c_bn1 13 ρ0 q_mm2 := fun ρ k1 hF hI k4 => by
  exact t_mm2g hv ρ k1 ⟨hF.1, fcn (s9_n (X := X) (ρ := ρ) (ix := 5633) (s := 0) (p := 55) (by decide +kernel)) (hF.2)⟩ hI k4
noncomputable def zf98zzzb_60 : sQ × Bool := ((0, .arg 60000, .op1 .l2i (.elem (.arg 64353) (.int 90))), true)
noncomputable def zf98zzzb_61 : sQ × Bool := ((158, .elem (.arg 64353) (.int 0), .int 1), true)
noncomputable def q_ma1 : sCut := ((fr 0 95 34 [(0, tr 75), (1, .int 90), (2, .int 3)] [], [fr 0 93 73 [(0, tr 75)] [], fr 0 60 30 [(0, tr 39), (1, .int 1)] [], fBot], 11), (fr 0 298 9 [(0, tr 219), (1, .arg 1308), (2, .int 6656)] [.arg 60000, .int 6656, .arg 1308, tr 219], [fr 0 297 81 [(0, tr 219), (1, .arg 1308), (5, .int 0)] [], fr 0 300 36 [(0, tr 219), (1, .arg 1308)] [], fBot], 11), [zf98zzzb_60, zf98zzzb_10, zf98zzzb_61, zf98zzzb_12, zf98zzzb_13, zf98zzzb_14, zf98zzzb_15, ((0, .arg 2816, .int 1), true), zf98zzzb_0, zf98zzzb_1, zf98zzzb_2, zf98zzzb_3, zf98zzzb_4, ((0, .arg 1698, .int 0), true), ((0, .arg 1300, .int 0), true), ((0, .arg 1302, .int 0), true), ((0, .arg 1430, .int 0), true), ((0, .arg 1318, .int 0), true), ((0, .arg 3232, .int 0), true), ((0, .arg 2050, .int 0), true), ((0, .arg 3264, .int 0), true), ((0, .arg 3296, .int 0), true), ((0, .arg 3328, .int 0), true), ((0, .arg 3168, .int 0), true), ((0, .arg 1858, .int 0), true), ((0, .arg 1890, .int 0), true), ((0, .arg 1922, .int 0), true), ((0, .arg 3008, .int 0), true), ((0, .arg 1954, .int 0), true), ((0, .arg 1986, .int 0), true), ((0, .arg 2018, .int 0), true), zf98zzzb_5, ((0, .arg 1702, .int 0), true), ((0, .arg 3360, .int 0), true), ((0, .arg 1350, .int 0), true), ((0, .arg 1826, .int 0), true), zf98zzzb_6, zf98zzzb_7, zf98zzzb_8, zf98zzzb_9, ((0, .arg 1730, .int 0), true)], i_bz)
noncomputable def zf98zzzb_62 : sQ × Bool := ((109, .add (.int 6656) (.int 0), .int 90), true)
noncomputable def zf98zzzb_63 : sQ × Bool := ((109, .add (.int 6656) (.int 1), .int 91), true)
noncomputable def zf98zzzb_64 : sQ × Bool := ((109, .add (.int 6656) (.int 2), .int 92), true)
noncomputable def zf98zzzb_65 : sQ × Bool := ((109, .add (.int 6656) (.int 3), .int 93), true)
noncomputable def zf98zzzb_66 : sQ × Bool := ((109, .add (.int 6656) (.int 4), .int 94), true)
noncomputable def q_ma1o : sCut := ((fr 0 95 34 [(0, tr 75), (1, .int 90), (2, .int 3)] [], [fr 0 93 73 [(0, tr 75)] [], fr 0 60 30 [(0, tr 39), (1, .int 1)] [], fBot], 11), (fr 0 298 9 [(0, tr 219), (1, .arg 1308), (2, .int 6656)] [.arg 60000, .int 6656, .arg 1308, tr 219], [fr 0 297 81 [(0, tr 219), (1, .arg 1308), (5, .int 0)] [], fr 0 300 36 [(0, tr 219), (1, .arg 1308)] [], fBot], 11), [zf98zzzb_62, zf98zzzb_63, zf98zzzb_64, zf98zzzb_65, zf98zzzb_66, zf98zzzb_23, zf98zzzb_24, ((139, .add (.elem (.arg 64353) (.int 0)) (.add (.int 90) (.arg 60000)), .int 0), true), zf98zzzb_60, zf98zzzb_10, zf98zzzb_61, zf98zzzb_12, zf98zzzb_13, zf98zzzb_14, zf98zzzb_15, ((0, .arg 2816, .int 1), true), zf98zzzb_0, zf98zzzb_1, zf98zzzb_2, zf98zzzb_3, zf98zzzb_4, ((0, .arg 1698, .int 0), true), ((0, .arg 1300, .int 0), true), ((0, .arg 1302, .int 0), true), ((0, .arg 1430, .int 0), true), ((0, .arg 1318, .int 0), true), ((0, .arg 3232, .int 0), true), ((0, .arg 2050, .int 0), true), ((0, .arg 3264, .int 0), true), ((0, .arg 3296, .int 0), true), ((0, .arg 3328, .int 0), true), ((0, .arg 3168, .int 0), true), ((0, .arg 1858, .int 0), true), ((0, .arg 1890, .int 0), true), ((0, .arg 1922, .int 0), true), ((0, .arg 3008, .int 0), true), ((0, .arg 1954, .int 0), true), ((0, .arg 1986, .int 0), true), ((0, .arg 2018, .int 0), true), zf98zzzb_5, ((0, .arg 1702, .int 0), true), ((0, .arg 3360, .int 0), true), ((0, .arg 1350, .int 0), true), ((0, .arg 1826, .int 0), true), zf98zzzb_6, zf98zzzb_7, zf98zzzb_8, zf98zzzb_9, ((0, .arg 1730, .int 0), true)], i_bz)
noncomputable def w_ma1o : List (sCut × List (Nat × sT) × List (Nat × sT × List (sT × sT))) := [(q_mm2T, [], [(64321, .arg 64321, []), (64353, .arg 64353, [])])]
theorem k_ma1o : cbody kR [(zWP, c_fndl), (zWB, c_mmo)] (cpl1 zWB c_bn1 [q_mm2T]) (cpl2 zWB c_bn1 [q_mm2T]) (cleafB kR zWB c_bn1 w_ma1o) 700 false false q_ma1o.2.2.1 q_ma1o.2.2.2 (cst zWB c_bn1.2.2.1.1 q_ma1o.1) (cst zWB c_bn1.2.2.1.2 q_ma1o.2.1) = true := by decide +kernel
theorem t_ma1o {X : pX} {ρ0 : sR} (hv : vok X ρ0) : CUTOK X kR zWB c_bn1 13 ρ0 q_ma1o := CUTOK_AT (fun ρ k1 hF hI k4 => AT_of (q := q_ma1o) rfl rfl (SEM_runB kR_x kR_0 (Cs := [(zWP, c_fndl), (zWB, c_mmo)]) (fun C hC => by
    simp only [List.mem_cons, List.not_mem_nil, or_false] at hC
    rcases hC with hC | hC
    · rw [hC]; exact s_fndl
    · rw [hC]; exact s_mmo) c_bn1_f (Q := w_ma1o) hv 700 (b1 := false) (b2 := false) k_ma1o k1 hF hI k4 (fun p hp ρ3 m1 m2 m3 m4 m5 m6 => by
  rw [List.mem_singleton.mp hp] at m2 m3 m5 m6 ⊢
  have eD : ρ3.1 1308 = ρ.1 1308 := (m4.1 1308 (by decide) (by decide)).1.trans (k4.1 1308 (by decide) (by decide)).1.symm
  obtain ⟨d0, d4⟩ := d_r hF.1
  have hA : ∀ j, ρ3.2.2.2.1 64321 j = ρ.2.2.2.1 64321 j := fun j => by
    have hw := m6 (64321, .arg 64321, []) (List.mem_cons_self) j
    have hw : Value.long (ρ3.2.2.2.1 64321 j) = Value.long (ρ.2.2.2.1 64321 j) := hw
    exact Value.long.inj hw
  have hB : ∀ j, ρ3.2.2.2.1 64353 j = ρ.2.2.2.1 64353 j := fun j => by
    have hw := m6 (64353, .arg 64353, []) (List.mem_cons_of_mem _ (List.mem_cons_self)) j
    have hw : Value.long (ρ3.2.2.2.1 64353 j) = Value.long (ρ.2.2.2.1 64353 j) := hw
    exact Value.long.inj hw
  have h7 := k157.mp (hF.2 _ (List.mem_cons_of_mem _ (List.mem_cons_of_mem _ (List.mem_cons_of_mem _ (List.mem_cons_of_mem _ (List.mem_cons_of_mem _ (List.mem_cons_of_mem _ (List.mem_cons_of_mem _ (List.mem_cons_of_mem _ (List.mem_cons_of_mem _ (List.mem_cons_self)))))))))))
  have h8 := k158.mp (hF.2 _ (List.mem_cons_of_mem _ (List.mem_cons_of_mem _ (List.mem_cons_of_mem _ (List.mem_cons_of_mem _ (List.mem_cons_of_mem _ (List.mem_cons_of_mem _ (List.mem_cons_of_mem _ (List.mem_cons_of_mem _ (List.mem_cons_of_mem _ (List.mem_cons_of_mem _ (List.mem_cons_self))))))))))))
  have h5 := k155.mp (hF.2 _ (List.mem_cons_of_mem _ (List.mem_cons_of_mem _ (List.mem_cons_of_mem _ (List.mem_cons_of_mem _ (List.mem_cons_of_mem _ (List.mem_cons_of_mem _ (List.mem_cons_of_mem _ (List.mem_cons_of_mem _ (List.mem_cons_of_mem _ (List.mem_cons_of_mem _ (List.mem_cons_of_mem _ (List.mem_cons_self)))))))))))))
  obtain ⟨v0, v4⟩ := ev_m4 (m := 90) (by decide) (h5 90 (by decide))
  have en : ρ.1 60000 = (ρ.2.2.2.1 64353 90).toInt32 := of_decide_eq_true (hF.2 _ (List.mem_cons_of_mem _ (List.mem_cons_of_mem _ (List.mem_cons_of_mem _ (List.mem_cons_of_mem _ (List.mem_cons_of_mem _ (List.mem_cons_of_mem _ (List.mem_cons_of_mem _ (List.mem_cons_of_mem _ (List.mem_cons_self))))))))))
  have hc : (0 : Int) = amcode (ρ.2.2.2.1 64353) 90 (ρ.1 60000).toInt.toNat := of_decide_eq_true (hF.2 _ (List.mem_cons_of_mem _ (List.mem_cons_of_mem _ (List.mem_cons_of_mem _ (List.mem_cons_of_mem _ (List.mem_cons_of_mem _ (List.mem_cons_of_mem _ (List.mem_cons_of_mem _ (List.mem_cons_self)))))))))
  rw [en, mv_l v0 (by omega)] at hc
  have eA : ρ3.2.2.2.1 64321 = ρ.2.2.2.1 64321 := funext hA
  have eB : ρ3.2.2.2.1 64353 = ρ.2.2.2.1 64353 := funext hB
  have x7 : sc X ρ3 (157, .add (.elem (.arg 64321) (.int 0)) (.add (.elem (.arg 64353) (.int 0)) (.arg 1308)), .int 8) = true := k157.mpr (by rw [eA, eB, eD]; exact h7)
  have x8 : sc X ρ3 (158, .elem (.arg 64353) (.int 0), .int 2) = true := k158.mpr (by rw [eB]; exact ampm_t (K := 1) (m := 90) rfl h8 hc.symm)
  have x5 : sc X ρ3 (155, .elem (.arg 64353) (.int 0), .int 0) = true := k155.mpr (by rw [eB]; exact h5)
  have z1 : sc X ρ3 (6, .elem (.arg 64321) (.int 1), .long 0) = true := decide_eq_true (show ρ3.2.2.2.1 64321 1 = 0 by
    rw [hA]
    exact of_decide_eq_true (hF.2 _ (List.mem_cons_of_mem _ (List.mem_cons_of_mem _ (List.mem_cons_of_mem _ (List.mem_cons_of_mem _ (List.mem_cons_of_mem _ (List.mem_cons_of_mem _ (List.mem_cons_of_mem _ (List.mem_cons_of_mem _ (List.mem_cons_of_mem _ (List.mem_cons_of_mem _ (List.mem_cons_of_mem _ (List.mem_cons_of_mem _ (List.mem_cons_self)))))))))))))))
  have z2 : sc X ρ3 (6, .elem (.arg 64353) (.int 114), .long 0) = true := decide_eq_true (show ρ3.2.2.2.1 64353 114 = 0 by
    rw [hB]
    exact of_decide_eq_true (hF.2 _ (List.mem_cons_of_mem _ (List.mem_cons_of_mem _ (List.mem_cons_of_mem _ (List.mem_cons_of_mem _ (List.mem_cons_of_mem _ (List.mem_cons_of_mem _ (List.mem_cons_of_mem _ (List.mem_cons_of_mem _ (List.mem_cons_of_mem _ (List.mem_cons_of_mem _ (List.mem_cons_of_mem _ (List.mem_cons_of_mem _ (List.mem_cons_of_mem _ (List.mem_cons_self))))))))))))))))
  have z3 : sc X ρ3 (6, .elem (.arg 64353) (.int 123), .long 0) = true := decide_eq_true (show ρ3.2.2.2.1 64353 123 = 0 by
    rw [hB]
    exact of_decide_eq_true (hF.2 _ (List.mem_cons_of_mem _ (List.mem_cons_of_mem _ (List.mem_cons_of_mem _ (List.mem_cons_of_mem _ (List.mem_cons_of_mem _ (List.mem_cons_of_mem _ (List.mem_cons_of_mem _ (List.mem_cons_of_mem _ (List.mem_cons_of_mem _ (List.mem_cons_of_mem _ (List.mem_cons_of_mem _ (List.mem_cons_of_mem _ (List.mem_cons_of_mem _ (List.mem_cons_of_mem _ (List.mem_cons_self)))))))))))))))))
  exact t_mm2 hv ρ3 m1 ⟨m2.1, fcn (x7) (fcn (x8) (fcn (x5) (fcn (z1) (fcn (z2) (fcn (z3) (m2.2))))))⟩ m3 m4)))
noncomputable def q_ma1n : sCut := ((fr 0 95 34 [(0, tr 75), (1, .int 90), (2, .int 3)] [], [fr 0 93 73 [(0, tr 75)] [], fr 0 60 30 [(0, tr 39), (1, .int 1)] [], fBot], 11), (fr 0 298 9 [(0, tr 219), (1, .arg 1308), (2, .int 6656)] [.arg 60000, .int 6656, .arg 1308, tr 219], [fr 0 297 81 [(0, tr 219), (1, .arg 1308), (5, .int 0)] [], fr 0 300 36 [(0, tr 219), (1, .arg 1308)] [], fBot], 11), [zf98zzzb_62, zf98zzzb_63, zf98zzzb_64, zf98zzzb_65, zf98zzzb_66, zf98zzzb_23, zf98zzzb_24, ((139, .add (.elem (.arg 64353) (.int 0)) (.add (.int 90) (.arg 60000)), .int 100925505), true), zf98zzzb_60, zf98zzzb_10, zf98zzzb_61, zf98zzzb_12, zf98zzzb_13, zf98zzzb_14, zf98zzzb_15, ((0, .arg 2816, .int 1), true), zf98zzzb_0, zf98zzzb_1, zf98zzzb_2, zf98zzzb_3, zf98zzzb_4, ((0, .arg 1698, .int 0), true), ((0, .arg 1300, .int 0), true), ((0, .arg 1302, .int 0), true), ((0, .arg 1430, .int 0), true), ((0, .arg 1318, .int 0), true), ((0, .arg 3232, .int 0), true), ((0, .arg 2050, .int 0), true), ((0, .arg 3264, .int 0), true), ((0, .arg 3296, .int 0), true), ((0, .arg 3328, .int 0), true), ((0, .arg 3168, .int 0), true), ((0, .arg 1858, .int 0), true), ((0, .arg 1890, .int 0), true), ((0, .arg 1922, .int 0), true), ((0, .arg 3008, .int 0), true), ((0, .arg 1954, .int 0), true), ((0, .arg 1986, .int 0), true), ((0, .arg 2018, .int 0), true), zf98zzzb_5, ((0, .arg 1702, .int 0), true), ((0, .arg 3360, .int 0), true), ((0, .arg 1350, .int 0), true), ((0, .arg 1826, .int 0), true), zf98zzzb_6, zf98zzzb_7, zf98zzzb_8, zf98zzzb_9, ((0, .arg 1730, .int 0), true)], i_bz)
noncomputable def w_ma1n : List (sCut × List (Nat × sT) × List (Nat × sT × List (sT × sT))) := [(q_mm2T, [], [(64321, .arg 64321, []), (64353, .arg 64353, [(.int 94, .long 0), (.int 93, .long 0), (.int 92, .long 0), (.int 91, .long 1614872592), (.int 90, .long 1)])])]
theorem k_ma1n : cbody kR [(zWP, c_fndl), (zWB, c_mmn)] (cpl1 zWB c_bn1 [q_mm2T]) (cpl2 zWB c_bn1 [q_mm2T]) (cleafB kR zWB c_bn1 w_ma1n) 700 false false q_ma1n.2.2.1 q_ma1n.2.2.2 (cst zWB c_bn1.2.2.1.1 q_ma1n.1) (cst zWB c_bn1.2.2.1.2 q_ma1n.2.1) = true := by decide +kernel
theorem t_ma1n {X : pX} {ρ0 : sR} (hv : vok X ρ0) : CUTOK X kR zWB c_bn1 13 ρ0 q_ma1n := CUTOK_AT (fun ρ k1 hF hI k4 => AT_of (q := q_ma1n) rfl rfl (SEM_runB kR_x kR_0 (Cs := [(zWP, c_fndl), (zWB, c_mmn)]) (fun C hC => by
    simp only [List.mem_cons, List.not_mem_nil, or_false] at hC
    rcases hC with hC | hC
    · rw [hC]; exact s_fndl
    · rw [hC]; exact s_mmn) c_bn1_f (Q := w_ma1n) hv 700 (b1 := false) (b2 := false) k_ma1n k1 hF hI k4 (fun p hp ρ3 m1 m2 m3 m4 m5 m6 => by
  rw [List.mem_singleton.mp hp] at m2 m3 m5 m6 ⊢
  have eD : ρ3.1 1308 = ρ.1 1308 := (m4.1 1308 (by decide) (by decide)).1.trans (k4.1 1308 (by decide) (by decide)).1.symm
  obtain ⟨d0, d4⟩ := d_r hF.1
  have hA : ∀ j, ρ3.2.2.2.1 64321 j = ρ.2.2.2.1 64321 j := fun j => by
    have hw := m6 (64321, .arg 64321, []) (List.mem_cons_self) j
    have hw : Value.long (ρ3.2.2.2.1 64321 j) = Value.long (ρ.2.2.2.1 64321 j) := hw
    exact Value.long.inj hw
  obtain ⟨hBn, hBf⟩ := fiv_w (f := ρ.2.2.2.1 64353) (g := ρ3.2.2.2.1 64353) (m := 90) (d := (ρ.1 1308).toInt) (v0 := 1) (v1 := 1614872592) (v2 := 0) (v3 := 0) (v4 := 0) (fun j => m6 (64353, .arg 64353, [(.int 94, .long 0), (.int 93, .long 0), (.int 92, .long 0), (.int 91, .long 1614872592), (.int 90, .long 1)]) (List.mem_cons_of_mem _ (List.mem_cons_self)) j) (amw_90 d0 d4 (i := 0) (by decide)) (amw_90 d0 d4 (i := 1) (by decide)) (amw_90 d0 d4 (i := 2) (by decide)) (amw_90 d0 d4 (i := 3) (by decide)) (amw_90 d0 d4 (i := 4) (by decide))
  have h7 := k157.mp (hF.2 _ (List.mem_cons_of_mem _ (List.mem_cons_of_mem _ (List.mem_cons_of_mem _ (List.mem_cons_of_mem _ (List.mem_cons_of_mem _ (List.mem_cons_of_mem _ (List.mem_cons_of_mem _ (List.mem_cons_of_mem _ (List.mem_cons_of_mem _ (List.mem_cons_self)))))))))))
  have h8 := k158.mp (hF.2 _ (List.mem_cons_of_mem _ (List.mem_cons_of_mem _ (List.mem_cons_of_mem _ (List.mem_cons_of_mem _ (List.mem_cons_of_mem _ (List.mem_cons_of_mem _ (List.mem_cons_of_mem _ (List.mem_cons_of_mem _ (List.mem_cons_of_mem _ (List.mem_cons_of_mem _ (List.mem_cons_self))))))))))))
  have h5 := k155.mp (hF.2 _ (List.mem_cons_of_mem _ (List.mem_cons_of_mem _ (List.mem_cons_of_mem _ (List.mem_cons_of_mem _ (List.mem_cons_of_mem _ (List.mem_cons_of_mem _ (List.mem_cons_of_mem _ (List.mem_cons_of_mem _ (List.mem_cons_of_mem _ (List.mem_cons_of_mem _ (List.mem_cons_of_mem _ (List.mem_cons_self)))))))))))))
  obtain ⟨v0, v4⟩ := ev_m4 (m := 90) (by decide) (h5 90 (by decide))
  have en : ρ.1 60000 = (ρ.2.2.2.1 64353 90).toInt32 := of_decide_eq_true (hF.2 _ (List.mem_cons_of_mem _ (List.mem_cons_of_mem _ (List.mem_cons_of_mem _ (List.mem_cons_of_mem _ (List.mem_cons_of_mem _ (List.mem_cons_of_mem _ (List.mem_cons_of_mem _ (List.mem_cons_of_mem _ (List.mem_cons_self))))))))))
  have hc : (100925505 : Int) = amcode (ρ.2.2.2.1 64353) 90 (ρ.1 60000).toInt.toNat := of_decide_eq_true (hF.2 _ (List.mem_cons_of_mem _ (List.mem_cons_of_mem _ (List.mem_cons_of_mem _ (List.mem_cons_of_mem _ (List.mem_cons_of_mem _ (List.mem_cons_of_mem _ (List.mem_cons_of_mem _ (List.mem_cons_self)))))))))
  rw [en, mv_l v0 (by omega)] at hc
  have hm : 90 ∈ amps := by decide
  have hn : ¬ amcode (ρ.2.2.2.1 64353) 90 (ρ.2.2.2.1 64353 90).toInt.toNat = 0 := by rw [← hc]; decide
  have eA : ρ3.2.2.2.1 64321 = ρ.2.2.2.1 64321 := funext hA
  have x7 : sc X ρ3 (157, .add (.elem (.arg 64321) (.int 0)) (.add (.elem (.arg 64353) (.int 0)) (.arg 1308)), .int 8) = true := k157.mpr (by rw [eA, eD]; exact amn_m d0 d4 hm h7 h5 hn (fun j _ hj => hBn j hj) hBf)
  have x8 : sc X ρ3 (158, .elem (.arg 64353) (.int 0), .int 2) = true := k158.mpr (ampm_t (K := 1) (m := 90) rfl (fun x hx => by
    have hx2 : x ∈ amps := of_decide_eq_true (List.all_eq_true.mp ampm_i x (List.mem_of_mem_take hx))
    by_cases e : x = 90
    · rw [e]; exact amf_0 d0 d4 hm hBf
    · rw [amo_c hm hx2 e h5 (fun j _ hj => hBn j hj)]; exact h8 x hx) (amf_0 d0 d4 hm hBf))
  have x5 : sc X ρ3 (155, .elem (.arg 64353) (.int 0), .int 0) = true := k155.mpr (fun j hj => by
    by_cases hi : 90 ≤ j ∧ j < 90 + 5
    · rw [hBf j hi.1 hi.2]; exact evf_k d0 d4 hj
    · rw [hBn j hi]; exact h5 j hj)
  have z1 : sc X ρ3 (6, .elem (.arg 64321) (.int 1), .long 0) = true := decide_eq_true (show ρ3.2.2.2.1 64321 1 = 0 by
    rw [hA]
    exact of_decide_eq_true (hF.2 _ (List.mem_cons_of_mem _ (List.mem_cons_of_mem _ (List.mem_cons_of_mem _ (List.mem_cons_of_mem _ (List.mem_cons_of_mem _ (List.mem_cons_of_mem _ (List.mem_cons_of_mem _ (List.mem_cons_of_mem _ (List.mem_cons_of_mem _ (List.mem_cons_of_mem _ (List.mem_cons_of_mem _ (List.mem_cons_of_mem _ (List.mem_cons_self)))))))))))))))
  have z2 : sc X ρ3 (6, .elem (.arg 64353) (.int 114), .long 0) = true := decide_eq_true (show ρ3.2.2.2.1 64353 114 = 0 by
    rw [hBn 114 (by decide)]
    exact of_decide_eq_true (hF.2 _ (List.mem_cons_of_mem _ (List.mem_cons_of_mem _ (List.mem_cons_of_mem _ (List.mem_cons_of_mem _ (List.mem_cons_of_mem _ (List.mem_cons_of_mem _ (List.mem_cons_of_mem _ (List.mem_cons_of_mem _ (List.mem_cons_of_mem _ (List.mem_cons_of_mem _ (List.mem_cons_of_mem _ (List.mem_cons_of_mem _ (List.mem_cons_of_mem _ (List.mem_cons_self))))))))))))))))
  have z3 : sc X ρ3 (6, .elem (.arg 64353) (.int 123), .long 0) = true := decide_eq_true (show ρ3.2.2.2.1 64353 123 = 0 by
    rw [hBn 123 (by decide)]
    exact of_decide_eq_true (hF.2 _ (List.mem_cons_of_mem _ (List.mem_cons_of_mem _ (List.mem_cons_of_mem _ (List.mem_cons_of_mem _ (List.mem_cons_of_mem _ (List.mem_cons_of_mem _ (List.mem_cons_of_mem _ (List.mem_cons_of_mem _ (List.mem_cons_of_mem _ (List.mem_cons_of_mem _ (List.mem_cons_of_mem _ (List.mem_cons_of_mem _ (List.mem_cons_of_mem _ (List.mem_cons_of_mem _ (List.mem_cons_self)))))))))))))))))
  exact t_mm2 hv ρ3 m1 ⟨m2.1, fcn (x7) (fcn (x8) (fcn (x5) (fcn (z1) (fcn (z2) (fcn (z3) (m2.2))))))⟩ m3 m4)))
noncomputable def q_ma1l : sCut := ((fr 0 95 34 [(0, tr 75), (1, .int 90), (2, .int 3)] [], [fr 0 93 73 [(0, tr 75)] [], fr 0 60 30 [(0, tr 39), (1, .int 1)] [], fBot], 11), (fr 0 298 9 [(0, tr 219), (1, .arg 1308), (2, .int 6656)] [.arg 60000, .int 6656, .arg 1308, tr 219], [fr 0 297 81 [(0, tr 219), (1, .arg 1308), (5, .int 0)] [], fr 0 300 36 [(0, tr 219), (1, .arg 1308)] [], fBot], 11), [zf98zzzb_62, zf98zzzb_63, zf98zzzb_64, zf98zzzb_65, zf98zzzb_66, zf98zzzb_23, zf98zzzb_24, ((139, .add (.elem (.arg 64353) (.int 0)) (.add (.int 90) (.arg 60000)), .int 100925506), true), zf98zzzb_60, zf98zzzb_10, zf98zzzb_61, zf98zzzb_12, zf98zzzb_13, zf98zzzb_14, zf98zzzb_15, ((0, .arg 2816, .int 1), true), zf98zzzb_0, zf98zzzb_1, zf98zzzb_2, zf98zzzb_3, zf98zzzb_4, ((0, .arg 1698, .int 0), true), ((0, .arg 1300, .int 0), true), ((0, .arg 1302, .int 0), true), ((0, .arg 1430, .int 0), true), ((0, .arg 1318, .int 0), true), ((0, .arg 3232, .int 0), true), ((0, .arg 2050, .int 0), true), ((0, .arg 3264, .int 0), true), ((0, .arg 3296, .int 0), true), ((0, .arg 3328, .int 0), true), ((0, .arg 3168, .int 0), true), ((0, .arg 1858, .int 0), true), ((0, .arg 1890, .int 0), true), ((0, .arg 1922, .int 0), true), ((0, .arg 3008, .int 0), true), ((0, .arg 1954, .int 0), true), ((0, .arg 1986, .int 0), true), ((0, .arg 2018, .int 0), true), zf98zzzb_5, ((0, .arg 1702, .int 0), true), ((0, .arg 3360, .int 0), true), ((0, .arg 1350, .int 0), true), ((0, .arg 1826, .int 0), true), zf98zzzb_6, zf98zzzb_7, zf98zzzb_8, zf98zzzb_9, ((0, .arg 1730, .int 0), true)], i_bz)
noncomputable def w_ma1l : List (sCut × List (Nat × sT) × List (Nat × sT × List (sT × sT))) := [(q_mm2T, [], [(64321, .arg 64321, []), (64353, .arg 64353, [(.int 94, .long 0), (.int 93, .long 0), (.int 92, .long 0), (.int 91, .long 1614872592), (.int 90, .long 1)])])]
theorem k_ma1l : cbody kR [(zWP, c_fndl), (zWB, c_mml)] (cpl1 zWB c_bn1 [q_mm2T]) (cpl2 zWB c_bn1 [q_mm2T]) (cleafB kR zWB c_bn1 w_ma1l) 700 false false q_ma1l.2.2.1 q_ma1l.2.2.2 (cst zWB c_bn1.2.2.1.1 q_ma1l.1) (cst zWB c_bn1.2.2.1.2 q_ma1l.2.1) = true := by decide +kernel
theorem t_ma1l {X : pX} {ρ0 : sR} (hv : vok X ρ0) : CUTOK X kR zWB c_bn1 13 ρ0 q_ma1l := CUTOK_AT (fun ρ k1 hF hI k4 => AT_of (q := q_ma1l) rfl rfl (SEM_runB kR_x kR_0 (Cs := [(zWP, c_fndl), (zWB, c_mml)]) (fun C hC => by
    simp only [List.mem_cons, List.not_mem_nil, or_false] at hC
    rcases hC with hC | hC
    · rw [hC]; exact s_fndl
    · rw [hC]; exact s_mml) c_bn1_f (Q := w_ma1l) hv 700 (b1 := false) (b2 := false) k_ma1l k1 hF hI k4 (fun p hp ρ3 m1 m2 m3 m4 m5 m6 => by
  rw [List.mem_singleton.mp hp] at m2 m3 m5 m6 ⊢
  have eD : ρ3.1 1308 = ρ.1 1308 := (m4.1 1308 (by decide) (by decide)).1.trans (k4.1 1308 (by decide) (by decide)).1.symm
  obtain ⟨d0, d4⟩ := d_r hF.1
  have hA : ∀ j, ρ3.2.2.2.1 64321 j = ρ.2.2.2.1 64321 j := fun j => by
    have hw := m6 (64321, .arg 64321, []) (List.mem_cons_self) j
    have hw : Value.long (ρ3.2.2.2.1 64321 j) = Value.long (ρ.2.2.2.1 64321 j) := hw
    exact Value.long.inj hw
  obtain ⟨hBn, hBf⟩ := fiv_w (f := ρ.2.2.2.1 64353) (g := ρ3.2.2.2.1 64353) (m := 90) (d := (ρ.1 1308).toInt) (v0 := 1) (v1 := 1614872592) (v2 := 0) (v3 := 0) (v4 := 0) (fun j => m6 (64353, .arg 64353, [(.int 94, .long 0), (.int 93, .long 0), (.int 92, .long 0), (.int 91, .long 1614872592), (.int 90, .long 1)]) (List.mem_cons_of_mem _ (List.mem_cons_self)) j) (amw_90 d0 d4 (i := 0) (by decide)) (amw_90 d0 d4 (i := 1) (by decide)) (amw_90 d0 d4 (i := 2) (by decide)) (amw_90 d0 d4 (i := 3) (by decide)) (amw_90 d0 d4 (i := 4) (by decide))
  have h7 := k157.mp (hF.2 _ (List.mem_cons_of_mem _ (List.mem_cons_of_mem _ (List.mem_cons_of_mem _ (List.mem_cons_of_mem _ (List.mem_cons_of_mem _ (List.mem_cons_of_mem _ (List.mem_cons_of_mem _ (List.mem_cons_of_mem _ (List.mem_cons_of_mem _ (List.mem_cons_self)))))))))))
  have h8 := k158.mp (hF.2 _ (List.mem_cons_of_mem _ (List.mem_cons_of_mem _ (List.mem_cons_of_mem _ (List.mem_cons_of_mem _ (List.mem_cons_of_mem _ (List.mem_cons_of_mem _ (List.mem_cons_of_mem _ (List.mem_cons_of_mem _ (List.mem_cons_of_mem _ (List.mem_cons_of_mem _ (List.mem_cons_self))))))))))))
  have h5 := k155.mp (hF.2 _ (List.mem_cons_of_mem _ (List.mem_cons_of_mem _ (List.mem_cons_of_mem _ (List.mem_cons_of_mem _ (List.mem_cons_of_mem _ (List.mem_cons_of_mem _ (List.mem_cons_of_mem _ (List.mem_cons_of_mem _ (List.mem_cons_of_mem _ (List.mem_cons_of_mem _ (List.mem_cons_of_mem _ (List.mem_cons_self)))))))))))))
  obtain ⟨v0, v4⟩ := ev_m4 (m := 90) (by decide) (h5 90 (by decide))
  have en : ρ.1 60000 = (ρ.2.2.2.1 64353 90).toInt32 := of_decide_eq_true (hF.2 _ (List.mem_cons_of_mem _ (List.mem_cons_of_mem _ (List.mem_cons_of_mem _ (List.mem_cons_of_mem _ (List.mem_cons_of_mem _ (List.mem_cons_of_mem _ (List.mem_cons_of_mem _ (List.mem_cons_of_mem _ (List.mem_cons_self))))))))))
  have hc : (100925506 : Int) = amcode (ρ.2.2.2.1 64353) 90 (ρ.1 60000).toInt.toNat := of_decide_eq_true (hF.2 _ (List.mem_cons_of_mem _ (List.mem_cons_of_mem _ (List.mem_cons_of_mem _ (List.mem_cons_of_mem _ (List.mem_cons_of_mem _ (List.mem_cons_of_mem _ (List.mem_cons_of_mem _ (List.mem_cons_self)))))))))
  rw [en, mv_l v0 (by omega)] at hc
  have hm : 90 ∈ amps := by decide
  have hn : ¬ amcode (ρ.2.2.2.1 64353) 90 (ρ.2.2.2.1 64353 90).toInt.toNat = 0 := by rw [← hc]; decide
  have eA : ρ3.2.2.2.1 64321 = ρ.2.2.2.1 64321 := funext hA
  have x7 : sc X ρ3 (157, .add (.elem (.arg 64321) (.int 0)) (.add (.elem (.arg 64353) (.int 0)) (.arg 1308)), .int 8) = true := k157.mpr (by rw [eA, eD]; exact amn_m d0 d4 hm h7 h5 hn (fun j _ hj => hBn j hj) hBf)
  have x8 : sc X ρ3 (158, .elem (.arg 64353) (.int 0), .int 2) = true := k158.mpr (ampm_t (K := 1) (m := 90) rfl (fun x hx => by
    have hx2 : x ∈ amps := of_decide_eq_true (List.all_eq_true.mp ampm_i x (List.mem_of_mem_take hx))
    by_cases e : x = 90
    · rw [e]; exact amf_0 d0 d4 hm hBf
    · rw [amo_c hm hx2 e h5 (fun j _ hj => hBn j hj)]; exact h8 x hx) (amf_0 d0 d4 hm hBf))
  have x5 : sc X ρ3 (155, .elem (.arg 64353) (.int 0), .int 0) = true := k155.mpr (fun j hj => by
    by_cases hi : 90 ≤ j ∧ j < 90 + 5
    · rw [hBf j hi.1 hi.2]; exact evf_k d0 d4 hj
    · rw [hBn j hi]; exact h5 j hj)
  have z1 : sc X ρ3 (6, .elem (.arg 64321) (.int 1), .long 0) = true := decide_eq_true (show ρ3.2.2.2.1 64321 1 = 0 by
    rw [hA]
    exact of_decide_eq_true (hF.2 _ (List.mem_cons_of_mem _ (List.mem_cons_of_mem _ (List.mem_cons_of_mem _ (List.mem_cons_of_mem _ (List.mem_cons_of_mem _ (List.mem_cons_of_mem _ (List.mem_cons_of_mem _ (List.mem_cons_of_mem _ (List.mem_cons_of_mem _ (List.mem_cons_of_mem _ (List.mem_cons_of_mem _ (List.mem_cons_of_mem _ (List.mem_cons_self)))))))))))))))
  have z2 : sc X ρ3 (6, .elem (.arg 64353) (.int 114), .long 0) = true := decide_eq_true (show ρ3.2.2.2.1 64353 114 = 0 by
    rw [hBn 114 (by decide)]
    exact of_decide_eq_true (hF.2 _ (List.mem_cons_of_mem _ (List.mem_cons_of_mem _ (List.mem_cons_of_mem _ (List.mem_cons_of_mem _ (List.mem_cons_of_mem _ (List.mem_cons_of_mem _ (List.mem_cons_of_mem _ (List.mem_cons_of_mem _ (List.mem_cons_of_mem _ (List.mem_cons_of_mem _ (List.mem_cons_of_mem _ (List.mem_cons_of_mem _ (List.mem_cons_of_mem _ (List.mem_cons_self))))))))))))))))
  have z3 : sc X ρ3 (6, .elem (.arg 64353) (.int 123), .long 0) = true := decide_eq_true (show ρ3.2.2.2.1 64353 123 = 0 by
    rw [hBn 123 (by decide)]
    exact of_decide_eq_true (hF.2 _ (List.mem_cons_of_mem _ (List.mem_cons_of_mem _ (List.mem_cons_of_mem _ (List.mem_cons_of_mem _ (List.mem_cons_of_mem _ (List.mem_cons_of_mem _ (List.mem_cons_of_mem _ (List.mem_cons_of_mem _ (List.mem_cons_of_mem _ (List.mem_cons_of_mem _ (List.mem_cons_of_mem _ (List.mem_cons_of_mem _ (List.mem_cons_of_mem _ (List.mem_cons_of_mem _ (List.mem_cons_self)))))))))))))))))
  exact t_mm2 hv ρ3 m1 ⟨m2.1, fcn (x7) (fcn (x8) (fcn (x5) (fcn (z1) (fcn (z2) (fcn (z3) (m2.2))))))⟩ m3 m4)))
theorem t_ma1 {X : pX} {ρ0 : sR} (hv : vok X ρ0) : CUTOK X kR zWB c_bn1 13 ρ0 q_ma1 := fun ρ k1 hF hI k4 => by
  have h5 := k155.mp (hF.2 _ (List.mem_cons_of_mem _ (List.mem_cons_of_mem _ (List.mem_cons_of_mem _ (List.mem_cons_self)))))
  obtain ⟨v0, v4⟩ := ev_m4 (m := 90) (by decide) (h5 90 (by decide))
  have f0 := s9_n (X := X) (ρ := ρ) (ix := 6656) (s := 0) (p := 90) (by decide +kernel)
  have f1 := s9_n (X := X) (ρ := ρ) (ix := 6656) (s := 1) (p := 91) (by decide +kernel)
  have f2 := s9_n (X := X) (ρ := ρ) (ix := 6656) (s := 2) (p := 92) (by decide +kernel)
  have f3 := s9_n (X := X) (ρ := ρ) (ix := 6656) (s := 3) (p := 93) (by decide +kernel)
  have f4 := s9_n (X := X) (ρ := ρ) (ix := 6656) (s := 4) (p := 94) (by decide +kernel)
  have en : ρ.1 60000 = (ρ.2.2.2.1 64353 90).toInt32 := of_decide_eq_true (hF.2 _ (List.mem_cons_self))
  have ev : (ρ.1 60000).toInt = (ρ.2.2.2.1 64353 90).toInt := by rw [en]; exact mv_l v0 (by omega)
  rcases am_3 (g := ρ.2.2.2.1 64353) (m := 90) (n := (ρ.1 60000).toInt.toNat) with h | h | h
  · exact t_ma1o hv ρ k1 ⟨hF.1, fcn (f0) (fcn (f1) (fcn (f2) (fcn (f3) (fcn (f4) (fcn (di_lf (x := ρ.1 60000) (y := 0) (by rw [ev]; show (0 : Int) ≤ _; exact v0)) (fcn (di_lf (x := 4) (y := ρ.1 60000) (by rw [ev]; show _ ≤ (4 : Int); exact v4)) (fcn (decide_eq_true (show (0 : Int) = amcode (ρ.2.2.2.1 64353) 90 (ρ.1 60000).toInt.toNat from h.symm)) (hF.2))))))))⟩ hI k4
  · exact t_ma1n hv ρ k1 ⟨hF.1, fcn (f0) (fcn (f1) (fcn (f2) (fcn (f3) (fcn (f4) (fcn (di_lf (x := ρ.1 60000) (y := 0) (by rw [ev]; show (0 : Int) ≤ _; exact v0)) (fcn (di_lf (x := 4) (y := ρ.1 60000) (by rw [ev]; show _ ≤ (4 : Int); exact v4)) (fcn (decide_eq_true (show (100925505 : Int) = amcode (ρ.2.2.2.1 64353) 90 (ρ.1 60000).toInt.toNat from h.symm)) (hF.2))))))))⟩ hI k4
  · exact t_ma1l hv ρ k1 ⟨hF.1, fcn (f0) (fcn (f1) (fcn (f2) (fcn (f3) (fcn (f4) (fcn (di_lf (x := ρ.1 60000) (y := 0) (by rw [ev]; show (0 : Int) ≤ _; exact v0)) (fcn (di_lf (x := 4) (y := ρ.1 60000) (by rw [ev]; show _ ≤ (4 : Int); exact v4)) (fcn (decide_eq_true (show (100925506 : Int) = amcode (ρ.2.2.2.1 64353) 90 (ρ.1 60000).toInt.toNat from h.symm)) (hF.2))))))))⟩ hI k4
noncomputable def q_mm1 : sCut := ((fr 0 95 34 [(0, tr 75), (1, .int 90), (2, .int 3)] [], [fr 0 93 73 [(0, tr 75)] [], fr 0 60 30 [(0, tr 39), (1, .int 1)] [], fBot], 11), (fr 0 297 75 [(0, tr 219), (1, .arg 1308), (5, .int 0)] [], [fr 0 300 36 [(0, tr 219), (1, .arg 1308)] [], fBot], 12), [zf98zzzb_10, zf98zzzb_61, zf98zzzb_12, zf98zzzb_13, zf98zzzb_14, zf98zzzb_15, ((0, .arg 2816, .int 1), true), zf98zzzb_0, zf98zzzb_1, zf98zzzb_2, zf98zzzb_3, zf98zzzb_4, ((0, .arg 1698, .int 0), true), ((0, .arg 1300, .int 0), true), ((0, .arg 1302, .int 0), true), ((0, .arg 1430, .int 0), true), ((0, .arg 1318, .int 0), true), ((0, .arg 3232, .int 0), true), ((0, .arg 2050, .int 0), true), ((0, .arg 3264, .int 0), true), ((0, .arg 3296, .int 0), true), ((0, .arg 3328, .int 0), true), ((0, .arg 3168, .int 0), true), ((0, .arg 1858, .int 0), true), ((0, .arg 1890, .int 0), true), ((0, .arg 1922, .int 0), true), ((0, .arg 3008, .int 0), true), ((0, .arg 1954, .int 0), true), ((0, .arg 1986, .int 0), true), ((0, .arg 2018, .int 0), true), zf98zzzb_5, ((0, .arg 1702, .int 0), true), ((0, .arg 3360, .int 0), true), ((0, .arg 1350, .int 0), true), ((0, .arg 1826, .int 0), true), zf98zzzb_6, zf98zzzb_7, zf98zzzb_8, zf98zzzb_9, ((0, .arg 1730, .int 0), true)], i_bz)
noncomputable def q_mm1g : sCut := ((fr 0 95 34 [(0, tr 75), (1, .int 90), (2, .int 3)] [], [fr 0 93 73 [(0, tr 75)] [], fr 0 60 30 [(0, tr 39), (1, .int 1)] [], fBot], 11), (fr 0 297 75 [(0, tr 219), (1, .arg 1308), (5, .int 0)] [], [fr 0 300 36 [(0, tr 219), (1, .arg 1308)] [], fBot], 12), [zf98zzzb_62, zf98zzzb_10, zf98zzzb_61, zf98zzzb_12, zf98zzzb_13, zf98zzzb_14, zf98zzzb_15, ((0, .arg 2816, .int 1), true), zf98zzzb_0, zf98zzzb_1, zf98zzzb_2, zf98zzzb_3, zf98zzzb_4, ((0, .arg 1698, .int 0), true), ((0, .arg 1300, .int 0), true), ((0, .arg 1302, .int 0), true), ((0, .arg 1430, .int 0), true), ((0, .arg 1318, .int 0), true), ((0, .arg 3232, .int 0), true), ((0, .arg 2050, .int 0), true), ((0, .arg 3264, .int 0), true), ((0, .arg 3296, .int 0), true), ((0, .arg 3328, .int 0), true), ((0, .arg 3168, .int 0), true), ((0, .arg 1858, .int 0), true), ((0, .arg 1890, .int 0), true), ((0, .arg 1922, .int 0), true), ((0, .arg 3008, .int 0), true), ((0, .arg 1954, .int 0), true), ((0, .arg 1986, .int 0), true), ((0, .arg 2018, .int 0), true), zf98zzzb_5, ((0, .arg 1702, .int 0), true), ((0, .arg 3360, .int 0), true), ((0, .arg 1350, .int 0), true), ((0, .arg 1826, .int 0), true), zf98zzzb_6, zf98zzzb_7, zf98zzzb_8, zf98zzzb_9, ((0, .arg 1730, .int 0), true)], i_bz)
theorem k_mm1g : cbody kR [(zWP, c_fndl)] (cpl1 zWB c_bn1 [q_ma1]) (cpl2 zWB c_bn1 [q_ma1]) (cleaf kR zWB c_bn1 [q_ma1]) 200 false true q_mm1g.2.2.1 q_mm1g.2.2.2 (cst zWB c_bn1.2.2.1.1 q_mm1g.1) (cst zWB c_bn1.2.2.1.2 q_mm1g.2.1) = true := by decide +kernel
theorem t_mm1g {X : pX} {ρ0 : sR} (hv : vok X ρ0) : CUTOK X kR zWB c_bn1 13 ρ0 q_mm1g := CUT_run kR_x kR_0 (Cs := [(zWP, c_fndl)]) (fun C hC => by rw [List.mem_singleton.mp hC]; exact s_fndl) c_bn1_f (Q := [q_ma1]) hv (fun q hq => by
    simp only [List.mem_cons, List.not_mem_nil, or_false] at hq
    rw [hq]; exact t_ma1 hv) 200 (b1 := false) (b2 := true) k_mm1g
theorem t_mm1 {X : pX} {ρ0 : sR} (hv : vok X ρ0) : CUTOK X kR zWB c_bn1 13 ρ0 q_mm1 := fun ρ k1 hF hI k4 => by
  exact t_mm1g hv ρ k1 ⟨hF.1, fcn (s9_n (X := X) (ρ := ρ) (ix := 6656) (s := 0) (p := 90) (by decide +kernel)) (hF.2)⟩ hI k4
noncomputable def zf98zzzb_67 : sQ × Bool := ((0, .arg 60000, .op1 .l2i (.elem (.arg 64353) (.int 50))), true)
noncomputable def zf98zzzb_68 : sQ × Bool := ((158, .elem (.arg 64353) (.int 0), .int 0), true)
noncomputable def q_ma0 : sCut := ((fr 0 95 34 [(0, tr 75), (1, .int 90), (2, .int 3)] [], [fr 0 93 73 [(0, tr 75)] [], fr 0 60 30 [(0, tr 39), (1, .int 1)] [], fBot], 11), (fr 0 298 9 [(0, tr 219), (1, .arg 1308), (2, .int 5632)] [.arg 60000, .int 5632, .arg 1308, tr 219], [fr 0 297 75 [(0, tr 219), (1, .arg 1308), (5, .int 0)] [], fr 0 300 36 [(0, tr 219), (1, .arg 1308)] [], fBot], 11), [zf98zzzb_67, zf98zzzb_10, zf98zzzb_68, zf98zzzb_12, zf98zzzb_13, zf98zzzb_14, zf98zzzb_15, ((0, .arg 2816, .int 1), true), zf98zzzb_0, zf98zzzb_1, zf98zzzb_2, zf98zzzb_3, zf98zzzb_4, ((0, .arg 1698, .int 0), true), ((0, .arg 1300, .int 0), true), ((0, .arg 1302, .int 0), true), ((0, .arg 1430, .int 0), true), ((0, .arg 1318, .int 0), true), ((0, .arg 3232, .int 0), true), ((0, .arg 2050, .int 0), true), ((0, .arg 3264, .int 0), true), ((0, .arg 3296, .int 0), true), ((0, .arg 3328, .int 0), true), ((0, .arg 3168, .int 0), true), ((0, .arg 1858, .int 0), true), ((0, .arg 1890, .int 0), true), ((0, .arg 1922, .int 0), true), ((0, .arg 3008, .int 0), true), ((0, .arg 1954, .int 0), true), ((0, .arg 1986, .int 0), true), ((0, .arg 2018, .int 0), true), zf98zzzb_5, ((0, .arg 1702, .int 0), true), ((0, .arg 3360, .int 0), true), ((0, .arg 1350, .int 0), true), ((0, .arg 1826, .int 0), true), zf98zzzb_6, zf98zzzb_7, zf98zzzb_8, zf98zzzb_9, ((0, .arg 1730, .int 0), true)], i_bz)
noncomputable def zf98zzzb_69 : sQ × Bool := ((109, .add (.int 5632) (.int 0), .int 50), true)
noncomputable def zf98zzzb_70 : sQ × Bool := ((109, .add (.int 5632) (.int 1), .int 51), true)
noncomputable def zf98zzzb_71 : sQ × Bool := ((109, .add (.int 5632) (.int 2), .int 52), true)
noncomputable def zf98zzzb_72 : sQ × Bool := ((109, .add (.int 5632) (.int 3), .int 53), true)
noncomputable def zf98zzzb_73 : sQ × Bool := ((109, .add (.int 5632) (.int 4), .int 54), true)
noncomputable def q_ma0o : sCut := ((fr 0 95 34 [(0, tr 75), (1, .int 90), (2, .int 3)] [], [fr 0 93 73 [(0, tr 75)] [], fr 0 60 30 [(0, tr 39), (1, .int 1)] [], fBot], 11), (fr 0 298 9 [(0, tr 219), (1, .arg 1308), (2, .int 5632)] [.arg 60000, .int 5632, .arg 1308, tr 219], [fr 0 297 75 [(0, tr 219), (1, .arg 1308), (5, .int 0)] [], fr 0 300 36 [(0, tr 219), (1, .arg 1308)] [], fBot], 11), [zf98zzzb_69, zf98zzzb_70, zf98zzzb_71, zf98zzzb_72, zf98zzzb_73, zf98zzzb_23, zf98zzzb_24, ((139, .add (.elem (.arg 64353) (.int 0)) (.add (.int 50) (.arg 60000)), .int 0), true), zf98zzzb_67, zf98zzzb_10, zf98zzzb_68, zf98zzzb_12, zf98zzzb_13, zf98zzzb_14, zf98zzzb_15, ((0, .arg 2816, .int 1), true), zf98zzzb_0, zf98zzzb_1, zf98zzzb_2, zf98zzzb_3, zf98zzzb_4, ((0, .arg 1698, .int 0), true), ((0, .arg 1300, .int 0), true), ((0, .arg 1302, .int 0), true), ((0, .arg 1430, .int 0), true), ((0, .arg 1318, .int 0), true), ((0, .arg 3232, .int 0), true), ((0, .arg 2050, .int 0), true), ((0, .arg 3264, .int 0), true), ((0, .arg 3296, .int 0), true), ((0, .arg 3328, .int 0), true), ((0, .arg 3168, .int 0), true), ((0, .arg 1858, .int 0), true), ((0, .arg 1890, .int 0), true), ((0, .arg 1922, .int 0), true), ((0, .arg 3008, .int 0), true), ((0, .arg 1954, .int 0), true), ((0, .arg 1986, .int 0), true), ((0, .arg 2018, .int 0), true), zf98zzzb_5, ((0, .arg 1702, .int 0), true), ((0, .arg 3360, .int 0), true), ((0, .arg 1350, .int 0), true), ((0, .arg 1826, .int 0), true), zf98zzzb_6, zf98zzzb_7, zf98zzzb_8, zf98zzzb_9, ((0, .arg 1730, .int 0), true)], i_bz)
noncomputable def w_ma0o : List (sCut × List (Nat × sT) × List (Nat × sT × List (sT × sT))) := [(q_mm1T, [], [(64321, .arg 64321, []), (64353, .arg 64353, [])])]
theorem k_ma0o : cbody kR [(zWP, c_fndl), (zWB, c_mmo)] (cpl1 zWB c_bn1 [q_mm1T]) (cpl2 zWB c_bn1 [q_mm1T]) (cleafB kR zWB c_bn1 w_ma0o) 700 false false q_ma0o.2.2.1 q_ma0o.2.2.2 (cst zWB c_bn1.2.2.1.1 q_ma0o.1) (cst zWB c_bn1.2.2.1.2 q_ma0o.2.1) = true := by decide +kernel
theorem t_ma0o {X : pX} {ρ0 : sR} (hv : vok X ρ0) : CUTOK X kR zWB c_bn1 13 ρ0 q_ma0o := CUTOK_AT (fun ρ k1 hF hI k4 => AT_of (q := q_ma0o) rfl rfl (SEM_runB kR_x kR_0 (Cs := [(zWP, c_fndl), (zWB, c_mmo)]) (fun C hC => by
    simp only [List.mem_cons, List.not_mem_nil, or_false] at hC
    rcases hC with hC | hC
    · rw [hC]; exact s_fndl
    · rw [hC]; exact s_mmo) c_bn1_f (Q := w_ma0o) hv 700 (b1 := false) (b2 := false) k_ma0o k1 hF hI k4 (fun p hp ρ3 m1 m2 m3 m4 m5 m6 => by
  rw [List.mem_singleton.mp hp] at m2 m3 m5 m6 ⊢
  have eD : ρ3.1 1308 = ρ.1 1308 := (m4.1 1308 (by decide) (by decide)).1.trans (k4.1 1308 (by decide) (by decide)).1.symm
  obtain ⟨d0, d4⟩ := d_r hF.1
  have hA : ∀ j, ρ3.2.2.2.1 64321 j = ρ.2.2.2.1 64321 j := fun j => by
    have hw := m6 (64321, .arg 64321, []) (List.mem_cons_self) j
    have hw : Value.long (ρ3.2.2.2.1 64321 j) = Value.long (ρ.2.2.2.1 64321 j) := hw
    exact Value.long.inj hw
  have hB : ∀ j, ρ3.2.2.2.1 64353 j = ρ.2.2.2.1 64353 j := fun j => by
    have hw := m6 (64353, .arg 64353, []) (List.mem_cons_of_mem _ (List.mem_cons_self)) j
    have hw : Value.long (ρ3.2.2.2.1 64353 j) = Value.long (ρ.2.2.2.1 64353 j) := hw
    exact Value.long.inj hw
  have h7 := k157.mp (hF.2 _ (List.mem_cons_of_mem _ (List.mem_cons_of_mem _ (List.mem_cons_of_mem _ (List.mem_cons_of_mem _ (List.mem_cons_of_mem _ (List.mem_cons_of_mem _ (List.mem_cons_of_mem _ (List.mem_cons_of_mem _ (List.mem_cons_of_mem _ (List.mem_cons_self)))))))))))
  have h8 := k158.mp (hF.2 _ (List.mem_cons_of_mem _ (List.mem_cons_of_mem _ (List.mem_cons_of_mem _ (List.mem_cons_of_mem _ (List.mem_cons_of_mem _ (List.mem_cons_of_mem _ (List.mem_cons_of_mem _ (List.mem_cons_of_mem _ (List.mem_cons_of_mem _ (List.mem_cons_of_mem _ (List.mem_cons_self))))))))))))
  have h5 := k155.mp (hF.2 _ (List.mem_cons_of_mem _ (List.mem_cons_of_mem _ (List.mem_cons_of_mem _ (List.mem_cons_of_mem _ (List.mem_cons_of_mem _ (List.mem_cons_of_mem _ (List.mem_cons_of_mem _ (List.mem_cons_of_mem _ (List.mem_cons_of_mem _ (List.mem_cons_of_mem _ (List.mem_cons_of_mem _ (List.mem_cons_self)))))))))))))
  obtain ⟨v0, v4⟩ := ev_m4 (m := 50) (by decide) (h5 50 (by decide))
  have en : ρ.1 60000 = (ρ.2.2.2.1 64353 50).toInt32 := of_decide_eq_true (hF.2 _ (List.mem_cons_of_mem _ (List.mem_cons_of_mem _ (List.mem_cons_of_mem _ (List.mem_cons_of_mem _ (List.mem_cons_of_mem _ (List.mem_cons_of_mem _ (List.mem_cons_of_mem _ (List.mem_cons_of_mem _ (List.mem_cons_self))))))))))
  have hc : (0 : Int) = amcode (ρ.2.2.2.1 64353) 50 (ρ.1 60000).toInt.toNat := of_decide_eq_true (hF.2 _ (List.mem_cons_of_mem _ (List.mem_cons_of_mem _ (List.mem_cons_of_mem _ (List.mem_cons_of_mem _ (List.mem_cons_of_mem _ (List.mem_cons_of_mem _ (List.mem_cons_of_mem _ (List.mem_cons_self)))))))))
  rw [en, mv_l v0 (by omega)] at hc
  have eA : ρ3.2.2.2.1 64321 = ρ.2.2.2.1 64321 := funext hA
  have eB : ρ3.2.2.2.1 64353 = ρ.2.2.2.1 64353 := funext hB
  have x7 : sc X ρ3 (157, .add (.elem (.arg 64321) (.int 0)) (.add (.elem (.arg 64353) (.int 0)) (.arg 1308)), .int 8) = true := k157.mpr (by rw [eA, eB, eD]; exact h7)
  have x8 : sc X ρ3 (158, .elem (.arg 64353) (.int 0), .int 1) = true := k158.mpr (by rw [eB]; exact ampm_t (K := 0) (m := 50) rfl h8 hc.symm)
  have x5 : sc X ρ3 (155, .elem (.arg 64353) (.int 0), .int 0) = true := k155.mpr (by rw [eB]; exact h5)
  have z1 : sc X ρ3 (6, .elem (.arg 64321) (.int 1), .long 0) = true := decide_eq_true (show ρ3.2.2.2.1 64321 1 = 0 by
    rw [hA]
    exact of_decide_eq_true (hF.2 _ (List.mem_cons_of_mem _ (List.mem_cons_of_mem _ (List.mem_cons_of_mem _ (List.mem_cons_of_mem _ (List.mem_cons_of_mem _ (List.mem_cons_of_mem _ (List.mem_cons_of_mem _ (List.mem_cons_of_mem _ (List.mem_cons_of_mem _ (List.mem_cons_of_mem _ (List.mem_cons_of_mem _ (List.mem_cons_of_mem _ (List.mem_cons_self)))))))))))))))
  have z2 : sc X ρ3 (6, .elem (.arg 64353) (.int 114), .long 0) = true := decide_eq_true (show ρ3.2.2.2.1 64353 114 = 0 by
    rw [hB]
    exact of_decide_eq_true (hF.2 _ (List.mem_cons_of_mem _ (List.mem_cons_of_mem _ (List.mem_cons_of_mem _ (List.mem_cons_of_mem _ (List.mem_cons_of_mem _ (List.mem_cons_of_mem _ (List.mem_cons_of_mem _ (List.mem_cons_of_mem _ (List.mem_cons_of_mem _ (List.mem_cons_of_mem _ (List.mem_cons_of_mem _ (List.mem_cons_of_mem _ (List.mem_cons_of_mem _ (List.mem_cons_self))))))))))))))))
  have z3 : sc X ρ3 (6, .elem (.arg 64353) (.int 123), .long 0) = true := decide_eq_true (show ρ3.2.2.2.1 64353 123 = 0 by
    rw [hB]
    exact of_decide_eq_true (hF.2 _ (List.mem_cons_of_mem _ (List.mem_cons_of_mem _ (List.mem_cons_of_mem _ (List.mem_cons_of_mem _ (List.mem_cons_of_mem _ (List.mem_cons_of_mem _ (List.mem_cons_of_mem _ (List.mem_cons_of_mem _ (List.mem_cons_of_mem _ (List.mem_cons_of_mem _ (List.mem_cons_of_mem _ (List.mem_cons_of_mem _ (List.mem_cons_of_mem _ (List.mem_cons_of_mem _ (List.mem_cons_self)))))))))))))))))
  exact t_mm1 hv ρ3 m1 ⟨m2.1, fcn (x7) (fcn (x8) (fcn (x5) (fcn (z1) (fcn (z2) (fcn (z3) (m2.2))))))⟩ m3 m4)))
noncomputable def q_ma0n : sCut := ((fr 0 95 34 [(0, tr 75), (1, .int 90), (2, .int 3)] [], [fr 0 93 73 [(0, tr 75)] [], fr 0 60 30 [(0, tr 39), (1, .int 1)] [], fBot], 11), (fr 0 298 9 [(0, tr 219), (1, .arg 1308), (2, .int 5632)] [.arg 60000, .int 5632, .arg 1308, tr 219], [fr 0 297 75 [(0, tr 219), (1, .arg 1308), (5, .int 0)] [], fr 0 300 36 [(0, tr 219), (1, .arg 1308)] [], fBot], 11), [zf98zzzb_69, zf98zzzb_70, zf98zzzb_71, zf98zzzb_72, zf98zzzb_73, zf98zzzb_23, zf98zzzb_24, ((139, .add (.elem (.arg 64353) (.int 0)) (.add (.int 50) (.arg 60000)), .int 100925505), true), zf98zzzb_67, zf98zzzb_10, zf98zzzb_68, zf98zzzb_12, zf98zzzb_13, zf98zzzb_14, zf98zzzb_15, ((0, .arg 2816, .int 1), true), zf98zzzb_0, zf98zzzb_1, zf98zzzb_2, zf98zzzb_3, zf98zzzb_4, ((0, .arg 1698, .int 0), true), ((0, .arg 1300, .int 0), true), ((0, .arg 1302, .int 0), true), ((0, .arg 1430, .int 0), true), ((0, .arg 1318, .int 0), true), ((0, .arg 3232, .int 0), true), ((0, .arg 2050, .int 0), true), ((0, .arg 3264, .int 0), true), ((0, .arg 3296, .int 0), true), ((0, .arg 3328, .int 0), true), ((0, .arg 3168, .int 0), true), ((0, .arg 1858, .int 0), true), ((0, .arg 1890, .int 0), true), ((0, .arg 1922, .int 0), true), ((0, .arg 3008, .int 0), true), ((0, .arg 1954, .int 0), true), ((0, .arg 1986, .int 0), true), ((0, .arg 2018, .int 0), true), zf98zzzb_5, ((0, .arg 1702, .int 0), true), ((0, .arg 3360, .int 0), true), ((0, .arg 1350, .int 0), true), ((0, .arg 1826, .int 0), true), zf98zzzb_6, zf98zzzb_7, zf98zzzb_8, zf98zzzb_9, ((0, .arg 1730, .int 0), true)], i_bz)
noncomputable def w_ma0n : List (sCut × List (Nat × sT) × List (Nat × sT × List (sT × sT))) := [(q_mm1T, [], [(64321, .arg 64321, []), (64353, .arg 64353, [(.int 54, .long 0), (.int 53, .long 0), (.int 52, .long 0), (.int 51, .long 1614807056), (.int 50, .long 1)])])]
theorem k_ma0n : cbody kR [(zWP, c_fndl), (zWB, c_mmn)] (cpl1 zWB c_bn1 [q_mm1T]) (cpl2 zWB c_bn1 [q_mm1T]) (cleafB kR zWB c_bn1 w_ma0n) 700 false false q_ma0n.2.2.1 q_ma0n.2.2.2 (cst zWB c_bn1.2.2.1.1 q_ma0n.1) (cst zWB c_bn1.2.2.1.2 q_ma0n.2.1) = true := by decide +kernel
theorem t_ma0n {X : pX} {ρ0 : sR} (hv : vok X ρ0) : CUTOK X kR zWB c_bn1 13 ρ0 q_ma0n := CUTOK_AT (fun ρ k1 hF hI k4 => AT_of (q := q_ma0n) rfl rfl (SEM_runB kR_x kR_0 (Cs := [(zWP, c_fndl), (zWB, c_mmn)]) (fun C hC => by
    simp only [List.mem_cons, List.not_mem_nil, or_false] at hC
    rcases hC with hC | hC
    · rw [hC]; exact s_fndl
    · rw [hC]; exact s_mmn) c_bn1_f (Q := w_ma0n) hv 700 (b1 := false) (b2 := false) k_ma0n k1 hF hI k4 (fun p hp ρ3 m1 m2 m3 m4 m5 m6 => by
  rw [List.mem_singleton.mp hp] at m2 m3 m5 m6 ⊢
  have eD : ρ3.1 1308 = ρ.1 1308 := (m4.1 1308 (by decide) (by decide)).1.trans (k4.1 1308 (by decide) (by decide)).1.symm
  obtain ⟨d0, d4⟩ := d_r hF.1
  have hA : ∀ j, ρ3.2.2.2.1 64321 j = ρ.2.2.2.1 64321 j := fun j => by
    have hw := m6 (64321, .arg 64321, []) (List.mem_cons_self) j
    have hw : Value.long (ρ3.2.2.2.1 64321 j) = Value.long (ρ.2.2.2.1 64321 j) := hw
    exact Value.long.inj hw
  obtain ⟨hBn, hBf⟩ := fiv_w (f := ρ.2.2.2.1 64353) (g := ρ3.2.2.2.1 64353) (m := 50) (d := (ρ.1 1308).toInt) (v0 := 1) (v1 := 1614807056) (v2 := 0) (v3 := 0) (v4 := 0) (fun j => m6 (64353, .arg 64353, [(.int 54, .long 0), (.int 53, .long 0), (.int 52, .long 0), (.int 51, .long 1614807056), (.int 50, .long 1)]) (List.mem_cons_of_mem _ (List.mem_cons_self)) j) (amw_50 d0 d4 (i := 0) (by decide)) (amw_50 d0 d4 (i := 1) (by decide)) (amw_50 d0 d4 (i := 2) (by decide)) (amw_50 d0 d4 (i := 3) (by decide)) (amw_50 d0 d4 (i := 4) (by decide))
  have h7 := k157.mp (hF.2 _ (List.mem_cons_of_mem _ (List.mem_cons_of_mem _ (List.mem_cons_of_mem _ (List.mem_cons_of_mem _ (List.mem_cons_of_mem _ (List.mem_cons_of_mem _ (List.mem_cons_of_mem _ (List.mem_cons_of_mem _ (List.mem_cons_of_mem _ (List.mem_cons_self)))))))))))
  have h8 := k158.mp (hF.2 _ (List.mem_cons_of_mem _ (List.mem_cons_of_mem _ (List.mem_cons_of_mem _ (List.mem_cons_of_mem _ (List.mem_cons_of_mem _ (List.mem_cons_of_mem _ (List.mem_cons_of_mem _ (List.mem_cons_of_mem _ (List.mem_cons_of_mem _ (List.mem_cons_of_mem _ (List.mem_cons_self))))))))))))
  have h5 := k155.mp (hF.2 _ (List.mem_cons_of_mem _ (List.mem_cons_of_mem _ (List.mem_cons_of_mem _ (List.mem_cons_of_mem _ (List.mem_cons_of_mem _ (List.mem_cons_of_mem _ (List.mem_cons_of_mem _ (List.mem_cons_of_mem _ (List.mem_cons_of_mem _ (List.mem_cons_of_mem _ (List.mem_cons_of_mem _ (List.mem_cons_self)))))))))))))
  obtain ⟨v0, v4⟩ := ev_m4 (m := 50) (by decide) (h5 50 (by decide))
  have en : ρ.1 60000 = (ρ.2.2.2.1 64353 50).toInt32 := of_decide_eq_true (hF.2 _ (List.mem_cons_of_mem _ (List.mem_cons_of_mem _ (List.mem_cons_of_mem _ (List.mem_cons_of_mem _ (List.mem_cons_of_mem _ (List.mem_cons_of_mem _ (List.mem_cons_of_mem _ (List.mem_cons_of_mem _ (List.mem_cons_self))))))))))
  have hc : (100925505 : Int) = amcode (ρ.2.2.2.1 64353) 50 (ρ.1 60000).toInt.toNat := of_decide_eq_true (hF.2 _ (List.mem_cons_of_mem _ (List.mem_cons_of_mem _ (List.mem_cons_of_mem _ (List.mem_cons_of_mem _ (List.mem_cons_of_mem _ (List.mem_cons_of_mem _ (List.mem_cons_of_mem _ (List.mem_cons_self)))))))))
  rw [en, mv_l v0 (by omega)] at hc
  have hm : 50 ∈ amps := by decide
  have hn : ¬ amcode (ρ.2.2.2.1 64353) 50 (ρ.2.2.2.1 64353 50).toInt.toNat = 0 := by rw [← hc]; decide
  have eA : ρ3.2.2.2.1 64321 = ρ.2.2.2.1 64321 := funext hA
  have x7 : sc X ρ3 (157, .add (.elem (.arg 64321) (.int 0)) (.add (.elem (.arg 64353) (.int 0)) (.arg 1308)), .int 8) = true := k157.mpr (by rw [eA, eD]; exact amn_m d0 d4 hm h7 h5 hn (fun j _ hj => hBn j hj) hBf)
  have x8 : sc X ρ3 (158, .elem (.arg 64353) (.int 0), .int 1) = true := k158.mpr (ampm_t (K := 0) (m := 50) rfl (fun x hx => by
    have hx2 : x ∈ amps := of_decide_eq_true (List.all_eq_true.mp ampm_i x (List.mem_of_mem_take hx))
    by_cases e : x = 50
    · rw [e]; exact amf_0 d0 d4 hm hBf
    · rw [amo_c hm hx2 e h5 (fun j _ hj => hBn j hj)]; exact h8 x hx) (amf_0 d0 d4 hm hBf))
  have x5 : sc X ρ3 (155, .elem (.arg 64353) (.int 0), .int 0) = true := k155.mpr (fun j hj => by
    by_cases hi : 50 ≤ j ∧ j < 50 + 5
    · rw [hBf j hi.1 hi.2]; exact evf_k d0 d4 hj
    · rw [hBn j hi]; exact h5 j hj)
  have z1 : sc X ρ3 (6, .elem (.arg 64321) (.int 1), .long 0) = true := decide_eq_true (show ρ3.2.2.2.1 64321 1 = 0 by
    rw [hA]
    exact of_decide_eq_true (hF.2 _ (List.mem_cons_of_mem _ (List.mem_cons_of_mem _ (List.mem_cons_of_mem _ (List.mem_cons_of_mem _ (List.mem_cons_of_mem _ (List.mem_cons_of_mem _ (List.mem_cons_of_mem _ (List.mem_cons_of_mem _ (List.mem_cons_of_mem _ (List.mem_cons_of_mem _ (List.mem_cons_of_mem _ (List.mem_cons_of_mem _ (List.mem_cons_self)))))))))))))))
  have z2 : sc X ρ3 (6, .elem (.arg 64353) (.int 114), .long 0) = true := decide_eq_true (show ρ3.2.2.2.1 64353 114 = 0 by
    rw [hBn 114 (by decide)]
    exact of_decide_eq_true (hF.2 _ (List.mem_cons_of_mem _ (List.mem_cons_of_mem _ (List.mem_cons_of_mem _ (List.mem_cons_of_mem _ (List.mem_cons_of_mem _ (List.mem_cons_of_mem _ (List.mem_cons_of_mem _ (List.mem_cons_of_mem _ (List.mem_cons_of_mem _ (List.mem_cons_of_mem _ (List.mem_cons_of_mem _ (List.mem_cons_of_mem _ (List.mem_cons_of_mem _ (List.mem_cons_self))))))))))))))))
  have z3 : sc X ρ3 (6, .elem (.arg 64353) (.int 123), .long 0) = true := decide_eq_true (show ρ3.2.2.2.1 64353 123 = 0 by
    rw [hBn 123 (by decide)]
    exact of_decide_eq_true (hF.2 _ (List.mem_cons_of_mem _ (List.mem_cons_of_mem _ (List.mem_cons_of_mem _ (List.mem_cons_of_mem _ (List.mem_cons_of_mem _ (List.mem_cons_of_mem _ (List.mem_cons_of_mem _ (List.mem_cons_of_mem _ (List.mem_cons_of_mem _ (List.mem_cons_of_mem _ (List.mem_cons_of_mem _ (List.mem_cons_of_mem _ (List.mem_cons_of_mem _ (List.mem_cons_of_mem _ (List.mem_cons_self)))))))))))))))))
  exact t_mm1 hv ρ3 m1 ⟨m2.1, fcn (x7) (fcn (x8) (fcn (x5) (fcn (z1) (fcn (z2) (fcn (z3) (m2.2))))))⟩ m3 m4)))
noncomputable def q_ma0l : sCut := ((fr 0 95 34 [(0, tr 75), (1, .int 90), (2, .int 3)] [], [fr 0 93 73 [(0, tr 75)] [], fr 0 60 30 [(0, tr 39), (1, .int 1)] [], fBot], 11), (fr 0 298 9 [(0, tr 219), (1, .arg 1308), (2, .int 5632)] [.arg 60000, .int 5632, .arg 1308, tr 219], [fr 0 297 75 [(0, tr 219), (1, .arg 1308), (5, .int 0)] [], fr 0 300 36 [(0, tr 219), (1, .arg 1308)] [], fBot], 11), [zf98zzzb_69, zf98zzzb_70, zf98zzzb_71, zf98zzzb_72, zf98zzzb_73, zf98zzzb_23, zf98zzzb_24, ((139, .add (.elem (.arg 64353) (.int 0)) (.add (.int 50) (.arg 60000)), .int 100925506), true), zf98zzzb_67, zf98zzzb_10, zf98zzzb_68, zf98zzzb_12, zf98zzzb_13, zf98zzzb_14, zf98zzzb_15, ((0, .arg 2816, .int 1), true), zf98zzzb_0, zf98zzzb_1, zf98zzzb_2, zf98zzzb_3, zf98zzzb_4, ((0, .arg 1698, .int 0), true), ((0, .arg 1300, .int 0), true), ((0, .arg 1302, .int 0), true), ((0, .arg 1430, .int 0), true), ((0, .arg 1318, .int 0), true), ((0, .arg 3232, .int 0), true), ((0, .arg 2050, .int 0), true), ((0, .arg 3264, .int 0), true), ((0, .arg 3296, .int 0), true), ((0, .arg 3328, .int 0), true), ((0, .arg 3168, .int 0), true), ((0, .arg 1858, .int 0), true), ((0, .arg 1890, .int 0), true), ((0, .arg 1922, .int 0), true), ((0, .arg 3008, .int 0), true), ((0, .arg 1954, .int 0), true), ((0, .arg 1986, .int 0), true), ((0, .arg 2018, .int 0), true), zf98zzzb_5, ((0, .arg 1702, .int 0), true), ((0, .arg 3360, .int 0), true), ((0, .arg 1350, .int 0), true), ((0, .arg 1826, .int 0), true), zf98zzzb_6, zf98zzzb_7, zf98zzzb_8, zf98zzzb_9, ((0, .arg 1730, .int 0), true)], i_bz)
noncomputable def w_ma0l : List (sCut × List (Nat × sT) × List (Nat × sT × List (sT × sT))) := [(q_mm1T, [], [(64321, .arg 64321, []), (64353, .arg 64353, [(.int 54, .long 0), (.int 53, .long 0), (.int 52, .long 0), (.int 51, .long 1614807056), (.int 50, .long 1)])])]
theorem k_ma0l : cbody kR [(zWP, c_fndl), (zWB, c_mml)] (cpl1 zWB c_bn1 [q_mm1T]) (cpl2 zWB c_bn1 [q_mm1T]) (cleafB kR zWB c_bn1 w_ma0l) 700 false false q_ma0l.2.2.1 q_ma0l.2.2.2 (cst zWB c_bn1.2.2.1.1 q_ma0l.1) (cst zWB c_bn1.2.2.1.2 q_ma0l.2.1) = true := by decide +kernel
theorem t_ma0l {X : pX} {ρ0 : sR} (hv : vok X ρ0) : CUTOK X kR zWB c_bn1 13 ρ0 q_ma0l := CUTOK_AT (fun ρ k1 hF hI k4 => AT_of (q := q_ma0l) rfl rfl (SEM_runB kR_x kR_0 (Cs := [(zWP, c_fndl), (zWB, c_mml)]) (fun C hC => by
    simp only [List.mem_cons, List.not_mem_nil, or_false] at hC
    rcases hC with hC | hC
    · rw [hC]; exact s_fndl
    · rw [hC]; exact s_mml) c_bn1_f (Q := w_ma0l) hv 700 (b1 := false) (b2 := false) k_ma0l k1 hF hI k4 (fun p hp ρ3 m1 m2 m3 m4 m5 m6 => by
  rw [List.mem_singleton.mp hp] at m2 m3 m5 m6 ⊢
  have eD : ρ3.1 1308 = ρ.1 1308 := (m4.1 1308 (by decide) (by decide)).1.trans (k4.1 1308 (by decide) (by decide)).1.symm
  obtain ⟨d0, d4⟩ := d_r hF.1
  have hA : ∀ j, ρ3.2.2.2.1 64321 j = ρ.2.2.2.1 64321 j := fun j => by
    have hw := m6 (64321, .arg 64321, []) (List.mem_cons_self) j
    have hw : Value.long (ρ3.2.2.2.1 64321 j) = Value.long (ρ.2.2.2.1 64321 j) := hw
    exact Value.long.inj hw
  obtain ⟨hBn, hBf⟩ := fiv_w (f := ρ.2.2.2.1 64353) (g := ρ3.2.2.2.1 64353) (m := 50) (d := (ρ.1 1308).toInt) (v0 := 1) (v1 := 1614807056) (v2 := 0) (v3 := 0) (v4 := 0) (fun j => m6 (64353, .arg 64353, [(.int 54, .long 0), (.int 53, .long 0), (.int 52, .long 0), (.int 51, .long 1614807056), (.int 50, .long 1)]) (List.mem_cons_of_mem _ (List.mem_cons_self)) j) (amw_50 d0 d4 (i := 0) (by decide)) (amw_50 d0 d4 (i := 1) (by decide)) (amw_50 d0 d4 (i := 2) (by decide)) (amw_50 d0 d4 (i := 3) (by decide)) (amw_50 d0 d4 (i := 4) (by decide))
  have h7 := k157.mp (hF.2 _ (List.mem_cons_of_mem _ (List.mem_cons_of_mem _ (List.mem_cons_of_mem _ (List.mem_cons_of_mem _ (List.mem_cons_of_mem _ (List.mem_cons_of_mem _ (List.mem_cons_of_mem _ (List.mem_cons_of_mem _ (List.mem_cons_of_mem _ (List.mem_cons_self)))))))))))
  have h8 := k158.mp (hF.2 _ (List.mem_cons_of_mem _ (List.mem_cons_of_mem _ (List.mem_cons_of_mem _ (List.mem_cons_of_mem _ (List.mem_cons_of_mem _ (List.mem_cons_of_mem _ (List.mem_cons_of_mem _ (List.mem_cons_of_mem _ (List.mem_cons_of_mem _ (List.mem_cons_of_mem _ (List.mem_cons_self))))))))))))
  have h5 := k155.mp (hF.2 _ (List.mem_cons_of_mem _ (List.mem_cons_of_mem _ (List.mem_cons_of_mem _ (List.mem_cons_of_mem _ (List.mem_cons_of_mem _ (List.mem_cons_of_mem _ (List.mem_cons_of_mem _ (List.mem_cons_of_mem _ (List.mem_cons_of_mem _ (List.mem_cons_of_mem _ (List.mem_cons_of_mem _ (List.mem_cons_self)))))))))))))
  obtain ⟨v0, v4⟩ := ev_m4 (m := 50) (by decide) (h5 50 (by decide))
  have en : ρ.1 60000 = (ρ.2.2.2.1 64353 50).toInt32 := of_decide_eq_true (hF.2 _ (List.mem_cons_of_mem _ (List.mem_cons_of_mem _ (List.mem_cons_of_mem _ (List.mem_cons_of_mem _ (List.mem_cons_of_mem _ (List.mem_cons_of_mem _ (List.mem_cons_of_mem _ (List.mem_cons_of_mem _ (List.mem_cons_self))))))))))
  have hc : (100925506 : Int) = amcode (ρ.2.2.2.1 64353) 50 (ρ.1 60000).toInt.toNat := of_decide_eq_true (hF.2 _ (List.mem_cons_of_mem _ (List.mem_cons_of_mem _ (List.mem_cons_of_mem _ (List.mem_cons_of_mem _ (List.mem_cons_of_mem _ (List.mem_cons_of_mem _ (List.mem_cons_of_mem _ (List.mem_cons_self)))))))))
  rw [en, mv_l v0 (by omega)] at hc
  have hm : 50 ∈ amps := by decide
  have hn : ¬ amcode (ρ.2.2.2.1 64353) 50 (ρ.2.2.2.1 64353 50).toInt.toNat = 0 := by rw [← hc]; decide
  have eA : ρ3.2.2.2.1 64321 = ρ.2.2.2.1 64321 := funext hA
  have x7 : sc X ρ3 (157, .add (.elem (.arg 64321) (.int 0)) (.add (.elem (.arg 64353) (.int 0)) (.arg 1308)), .int 8) = true := k157.mpr (by rw [eA, eD]; exact amn_m d0 d4 hm h7 h5 hn (fun j _ hj => hBn j hj) hBf)
  have x8 : sc X ρ3 (158, .elem (.arg 64353) (.int 0), .int 1) = true := k158.mpr (ampm_t (K := 0) (m := 50) rfl (fun x hx => by
    have hx2 : x ∈ amps := of_decide_eq_true (List.all_eq_true.mp ampm_i x (List.mem_of_mem_take hx))
    by_cases e : x = 50
    · rw [e]; exact amf_0 d0 d4 hm hBf
    · rw [amo_c hm hx2 e h5 (fun j _ hj => hBn j hj)]; exact h8 x hx) (amf_0 d0 d4 hm hBf))
  have x5 : sc X ρ3 (155, .elem (.arg 64353) (.int 0), .int 0) = true := k155.mpr (fun j hj => by
    by_cases hi : 50 ≤ j ∧ j < 50 + 5
    · rw [hBf j hi.1 hi.2]; exact evf_k d0 d4 hj
    · rw [hBn j hi]; exact h5 j hj)
  have z1 : sc X ρ3 (6, .elem (.arg 64321) (.int 1), .long 0) = true := decide_eq_true (show ρ3.2.2.2.1 64321 1 = 0 by
    rw [hA]
    exact of_decide_eq_true (hF.2 _ (List.mem_cons_of_mem _ (List.mem_cons_of_mem _ (List.mem_cons_of_mem _ (List.mem_cons_of_mem _ (List.mem_cons_of_mem _ (List.mem_cons_of_mem _ (List.mem_cons_of_mem _ (List.mem_cons_of_mem _ (List.mem_cons_of_mem _ (List.mem_cons_of_mem _ (List.mem_cons_of_mem _ (List.mem_cons_of_mem _ (List.mem_cons_self)))))))))))))))
  have z2 : sc X ρ3 (6, .elem (.arg 64353) (.int 114), .long 0) = true := decide_eq_true (show ρ3.2.2.2.1 64353 114 = 0 by
    rw [hBn 114 (by decide)]
    exact of_decide_eq_true (hF.2 _ (List.mem_cons_of_mem _ (List.mem_cons_of_mem _ (List.mem_cons_of_mem _ (List.mem_cons_of_mem _ (List.mem_cons_of_mem _ (List.mem_cons_of_mem _ (List.mem_cons_of_mem _ (List.mem_cons_of_mem _ (List.mem_cons_of_mem _ (List.mem_cons_of_mem _ (List.mem_cons_of_mem _ (List.mem_cons_of_mem _ (List.mem_cons_of_mem _ (List.mem_cons_self))))))))))))))))
  have z3 : sc X ρ3 (6, .elem (.arg 64353) (.int 123), .long 0) = true := decide_eq_true (show ρ3.2.2.2.1 64353 123 = 0 by
    rw [hBn 123 (by decide)]
    exact of_decide_eq_true (hF.2 _ (List.mem_cons_of_mem _ (List.mem_cons_of_mem _ (List.mem_cons_of_mem _ (List.mem_cons_of_mem _ (List.mem_cons_of_mem _ (List.mem_cons_of_mem _ (List.mem_cons_of_mem _ (List.mem_cons_of_mem _ (List.mem_cons_of_mem _ (List.mem_cons_of_mem _ (List.mem_cons_of_mem _ (List.mem_cons_of_mem _ (List.mem_cons_of_mem _ (List.mem_cons_of_mem _ (List.mem_cons_self)))))))))))))))))
  exact t_mm1 hv ρ3 m1 ⟨m2.1, fcn (x7) (fcn (x8) (fcn (x5) (fcn (z1) (fcn (z2) (fcn (z3) (m2.2))))))⟩ m3 m4)))
theorem t_ma0 {X : pX} {ρ0 : sR} (hv : vok X ρ0) : CUTOK X kR zWB c_bn1 13 ρ0 q_ma0 := fun ρ k1 hF hI k4 => by
  have h5 := k155.mp (hF.2 _ (List.mem_cons_of_mem _ (List.mem_cons_of_mem _ (List.mem_cons_of_mem _ (List.mem_cons_self)))))
  obtain ⟨v0, v4⟩ := ev_m4 (m := 50) (by decide) (h5 50 (by decide))
  have f0 := s9_n (X := X) (ρ := ρ) (ix := 5632) (s := 0) (p := 50) (by decide +kernel)
  have f1 := s9_n (X := X) (ρ := ρ) (ix := 5632) (s := 1) (p := 51) (by decide +kernel)
  have f2 := s9_n (X := X) (ρ := ρ) (ix := 5632) (s := 2) (p := 52) (by decide +kernel)
  have f3 := s9_n (X := X) (ρ := ρ) (ix := 5632) (s := 3) (p := 53) (by decide +kernel)
  have f4 := s9_n (X := X) (ρ := ρ) (ix := 5632) (s := 4) (p := 54) (by decide +kernel)
  have en : ρ.1 60000 = (ρ.2.2.2.1 64353 50).toInt32 := of_decide_eq_true (hF.2 _ (List.mem_cons_self))
  have ev : (ρ.1 60000).toInt = (ρ.2.2.2.1 64353 50).toInt := by rw [en]; exact mv_l v0 (by omega)
  rcases am_3 (g := ρ.2.2.2.1 64353) (m := 50) (n := (ρ.1 60000).toInt.toNat) with h | h | h
  · exact t_ma0o hv ρ k1 ⟨hF.1, fcn (f0) (fcn (f1) (fcn (f2) (fcn (f3) (fcn (f4) (fcn (di_lf (x := ρ.1 60000) (y := 0) (by rw [ev]; show (0 : Int) ≤ _; exact v0)) (fcn (di_lf (x := 4) (y := ρ.1 60000) (by rw [ev]; show _ ≤ (4 : Int); exact v4)) (fcn (decide_eq_true (show (0 : Int) = amcode (ρ.2.2.2.1 64353) 50 (ρ.1 60000).toInt.toNat from h.symm)) (hF.2))))))))⟩ hI k4
  · exact t_ma0n hv ρ k1 ⟨hF.1, fcn (f0) (fcn (f1) (fcn (f2) (fcn (f3) (fcn (f4) (fcn (di_lf (x := ρ.1 60000) (y := 0) (by rw [ev]; show (0 : Int) ≤ _; exact v0)) (fcn (di_lf (x := 4) (y := ρ.1 60000) (by rw [ev]; show _ ≤ (4 : Int); exact v4)) (fcn (decide_eq_true (show (100925505 : Int) = amcode (ρ.2.2.2.1 64353) 50 (ρ.1 60000).toInt.toNat from h.symm)) (hF.2))))))))⟩ hI k4
  · exact t_ma0l hv ρ k1 ⟨hF.1, fcn (f0) (fcn (f1) (fcn (f2) (fcn (f3) (fcn (f4) (fcn (di_lf (x := ρ.1 60000) (y := 0) (by rw [ev]; show (0 : Int) ≤ _; exact v0)) (fcn (di_lf (x := 4) (y := ρ.1 60000) (by rw [ev]; show _ ≤ (4 : Int); exact v4)) (fcn (decide_eq_true (show (100925506 : Int) = amcode (ρ.2.2.2.1 64353) 50 (ρ.1 60000).toInt.toNat from h.symm)) (hF.2))))))))⟩ hI k4
noncomputable def q_mm0 : sCut := ((fr 0 95 34 [(0, tr 75), (1, .int 90), (2, .int 3)] [], [fr 0 93 73 [(0, tr 75)] [], fr 0 60 30 [(0, tr 39), (1, .int 1)] [], fBot], 11), (fr 0 297 64 [(0, tr 219), (1, .arg 1308)] [], [fr 0 300 36 [(0, tr 219), (1, .arg 1308)] [], fBot], 12), [zf98zzzb_10, zf98zzzb_68, zf98zzzb_12, zf98zzzb_13, zf98zzzb_14, zf98zzzb_15, ((0, .arg 2816, .int 1), true), zf98zzzb_0, zf98zzzb_1, zf98zzzb_2, zf98zzzb_3, zf98zzzb_4, ((0, .arg 1698, .int 0), true), ((0, .arg 1300, .int 0), true), ((0, .arg 1302, .int 0), true), ((0, .arg 1430, .int 0), true), ((0, .arg 1318, .int 0), true), ((0, .arg 3232, .int 0), true), ((0, .arg 2050, .int 0), true), ((0, .arg 3264, .int 0), true), ((0, .arg 3296, .int 0), true), ((0, .arg 3328, .int 0), true), ((0, .arg 3168, .int 0), true), ((0, .arg 1858, .int 0), true), ((0, .arg 1890, .int 0), true), ((0, .arg 1922, .int 0), true), ((0, .arg 3008, .int 0), true), ((0, .arg 1954, .int 0), true), ((0, .arg 1986, .int 0), true), ((0, .arg 2018, .int 0), true), zf98zzzb_5, ((0, .arg 1702, .int 0), true), ((0, .arg 3360, .int 0), true), ((0, .arg 1350, .int 0), true), ((0, .arg 1826, .int 0), true), zf98zzzb_6, zf98zzzb_7, zf98zzzb_8, zf98zzzb_9, ((0, .arg 1730, .int 0), true)], i_bz)
noncomputable def q_mm0g : sCut := ((fr 0 95 34 [(0, tr 75), (1, .int 90), (2, .int 3)] [], [fr 0 93 73 [(0, tr 75)] [], fr 0 60 30 [(0, tr 39), (1, .int 1)] [], fBot], 11), (fr 0 297 64 [(0, tr 219), (1, .arg 1308)] [], [fr 0 300 36 [(0, tr 219), (1, .arg 1308)] [], fBot], 12), [zf98zzzb_69, zf98zzzb_10, zf98zzzb_68, zf98zzzb_12, zf98zzzb_13, zf98zzzb_14, zf98zzzb_15, ((0, .arg 2816, .int 1), true), zf98zzzb_0, zf98zzzb_1, zf98zzzb_2, zf98zzzb_3, zf98zzzb_4, ((0, .arg 1698, .int 0), true), ((0, .arg 1300, .int 0), true), ((0, .arg 1302, .int 0), true), ((0, .arg 1430, .int 0), true), ((0, .arg 1318, .int 0), true), ((0, .arg 3232, .int 0), true), ((0, .arg 2050, .int 0), true), ((0, .arg 3264, .int 0), true), ((0, .arg 3296, .int 0), true), ((0, .arg 3328, .int 0), true), ((0, .arg 3168, .int 0), true), ((0, .arg 1858, .int 0), true), ((0, .arg 1890, .int 0), true), ((0, .arg 1922, .int 0), true), ((0, .arg 3008, .int 0), true), ((0, .arg 1954, .int 0), true), ((0, .arg 1986, .int 0), true), ((0, .arg 2018, .int 0), true), zf98zzzb_5, ((0, .arg 1702, .int 0), true), ((0, .arg 3360, .int 0), true), ((0, .arg 1350, .int 0), true), ((0, .arg 1826, .int 0), true), zf98zzzb_6, zf98zzzb_7, zf98zzzb_8, zf98zzzb_9, ((0, .arg 1730, .int 0), true)], i_bz)
theorem k_mm0g : cbody kR [(zWP, c_fndl)] (cpl1 zWB c_bn1 [q_ma0]) (cpl2 zWB c_bn1 [q_ma0]) (cleaf kR zWB c_bn1 [q_ma0]) 200 false true q_mm0g.2.2.1 q_mm0g.2.2.2 (cst zWB c_bn1.2.2.1.1 q_mm0g.1) (cst zWB c_bn1.2.2.1.2 q_mm0g.2.1) = true := by decide +kernel
theorem t_mm0g {X : pX} {ρ0 : sR} (hv : vok X ρ0) : CUTOK X kR zWB c_bn1 13 ρ0 q_mm0g := CUT_run kR_x kR_0 (Cs := [(zWP, c_fndl)]) (fun C hC => by rw [List.mem_singleton.mp hC]; exact s_fndl) c_bn1_f (Q := [q_ma0]) hv (fun q hq => by
    simp only [List.mem_cons, List.not_mem_nil, or_false] at hq
    rw [hq]; exact t_ma0 hv) 200 (b1 := false) (b2 := true) k_mm0g
theorem t_mm0 {X : pX} {ρ0 : sR} (hv : vok X ρ0) : CUTOK X kR zWB c_bn1 13 ρ0 q_mm0 := fun ρ k1 hF hI k4 => by
  exact t_mm0g hv ρ k1 ⟨hF.1, fcn (s9_n (X := X) (ρ := ρ) (ix := 5632) (s := 0) (p := 50) (by decide +kernel)) (hF.2)⟩ hI k4
noncomputable def q_mc8 : sCut := ((fr 0 95 34 [(0, tr 75), (1, .int 90), (2, .int 3)] [], [fr 0 93 73 [(0, tr 75)] [], fr 0 60 30 [(0, tr 39), (1, .int 1)] [], fBot], 11), (fr 0 297 64 [(0, tr 219), (1, .arg 1308)] [], [fr 0 300 36 [(0, tr 219), (1, .arg 1308)] [], fBot], 12), [zf98zzzb_10, zf98zzzb_12, zf98zzzb_13, zf98zzzb_14, zf98zzzb_15, ((0, .arg 2816, .int 1), true), zf98zzzb_0, zf98zzzb_1, zf98zzzb_2, zf98zzzb_3, zf98zzzb_4, ((0, .arg 1698, .int 0), true), ((0, .arg 1300, .int 0), true), ((0, .arg 1302, .int 0), true), ((0, .arg 1430, .int 0), true), ((0, .arg 1318, .int 0), true), ((0, .arg 3232, .int 0), true), ((0, .arg 2050, .int 0), true), ((0, .arg 3264, .int 0), true), ((0, .arg 3296, .int 0), true), ((0, .arg 3328, .int 0), true), ((0, .arg 3168, .int 0), true), ((0, .arg 1858, .int 0), true), ((0, .arg 1890, .int 0), true), ((0, .arg 1922, .int 0), true), ((0, .arg 3008, .int 0), true), ((0, .arg 1954, .int 0), true), ((0, .arg 1986, .int 0), true), ((0, .arg 2018, .int 0), true), zf98zzzb_5, ((0, .arg 1702, .int 0), true), ((0, .arg 3360, .int 0), true), ((0, .arg 1350, .int 0), true), ((0, .arg 1826, .int 0), true), zf98zzzb_6, zf98zzzb_7, zf98zzzb_8, zf98zzzb_9, ((0, .arg 1730, .int 0), true)], i_bz)
theorem t_mc8 {X : pX} {ρ0 : sR} (hv : vok X ρ0) : CUTOK X kR zWB c_bn1 13 ρ0 q_mc8 := CUT_mono (t_mm0 hv) (fun ρ hF hI => ⟨⟨hF.1, fcn (hF.2 _ (List.mem_cons_self)) (fcn (k158.mpr (fun m hm => by cases hm)) (fun f hf => hF.2 f (List.mem_cons_of_mem _ hf)))⟩, hI⟩)
noncomputable def zf98zzzb_74 : sQ × Bool := ((6, .arg 60033, .elem (.arg 64321) (.int 105)), true)
noncomputable def zf98zzzb_75 : sQ × Bool := ((157, .add (.elem (.arg 64321) (.int 0)) (.add (.elem (.arg 64353) (.int 0)) (.arg 1308)), .int 7), true)
noncomputable def q_mb7 : sCut := ((fr 0 95 19 [(0, tr 75), (1, .int 90), (2, .int 3), (3, .int 105)] [.arg 60033, .int 105, tr 42], [fr 0 93 73 [(0, tr 75)] [], fr 0 60 30 [(0, tr 39), (1, .int 1)] [], fBot], 11), (fr 0 297 64 [(0, tr 219), (1, .arg 1308)] [], [fr 0 300 36 [(0, tr 219), (1, .arg 1308)] [], fBot], 12), [zf98zzzb_74, zf98zzzb_75, zf98zzzb_12, zf98zzzb_13, zf98zzzb_14, zf98zzzb_15, ((0, .arg 2816, .int 1), true), zf98zzzb_0, zf98zzzb_1, zf98zzzb_2, zf98zzzb_3, zf98zzzb_4, ((0, .arg 1698, .int 0), true), ((0, .arg 1300, .int 0), true), ((0, .arg 1302, .int 0), true), ((0, .arg 1430, .int 0), true), ((0, .arg 1318, .int 0), true), ((0, .arg 3232, .int 0), true), ((0, .arg 2050, .int 0), true), ((0, .arg 3264, .int 0), true), ((0, .arg 3296, .int 0), true), ((0, .arg 3328, .int 0), true), ((0, .arg 3168, .int 0), true), ((0, .arg 1858, .int 0), true), ((0, .arg 1890, .int 0), true), ((0, .arg 1922, .int 0), true), ((0, .arg 3008, .int 0), true), ((0, .arg 1954, .int 0), true), ((0, .arg 1986, .int 0), true), ((0, .arg 2018, .int 0), true), zf98zzzb_5, ((0, .arg 1702, .int 0), true), ((0, .arg 3360, .int 0), true), ((0, .arg 1350, .int 0), true), ((0, .arg 1826, .int 0), true), zf98zzzb_6, zf98zzzb_7, zf98zzzb_8, zf98zzzb_9, ((0, .arg 1730, .int 0), true)], i_bz)
noncomputable def zf98zzzb_76 : sQ × Bool := ((8, .arg 60033, .long 0), false)
noncomputable def zf98zzzb_77 : sQ × Bool := ((8, .long 4, .arg 60033), false)
noncomputable def q_mb7o : sCut := ((fr 0 95 19 [(0, tr 75), (1, .int 90), (2, .int 3), (3, .int 105)] [.arg 60033, .int 105, tr 42], [fr 0 93 73 [(0, tr 75)] [], fr 0 60 30 [(0, tr 39), (1, .int 1)] [], fBot], 11), (fr 0 297 64 [(0, tr 219), (1, .arg 1308)] [], [fr 0 300 36 [(0, tr 219), (1, .arg 1308)] [], fBot], 12), [zf98zzzb_76, zf98zzzb_77, ((139, .add (.elem (.arg 64321) (.int 0)) (.add (.int 105) (.arg 60033)), .int 0), true), zf98zzzb_74, zf98zzzb_75, zf98zzzb_12, zf98zzzb_13, zf98zzzb_14, zf98zzzb_15, ((0, .arg 2816, .int 1), true), zf98zzzb_0, zf98zzzb_1, zf98zzzb_2, zf98zzzb_3, zf98zzzb_4, ((0, .arg 1698, .int 0), true), ((0, .arg 1300, .int 0), true), ((0, .arg 1302, .int 0), true), ((0, .arg 1430, .int 0), true), ((0, .arg 1318, .int 0), true), ((0, .arg 3232, .int 0), true), ((0, .arg 2050, .int 0), true), ((0, .arg 3264, .int 0), true), ((0, .arg 3296, .int 0), true), ((0, .arg 3328, .int 0), true), ((0, .arg 3168, .int 0), true), ((0, .arg 1858, .int 0), true), ((0, .arg 1890, .int 0), true), ((0, .arg 1922, .int 0), true), ((0, .arg 3008, .int 0), true), ((0, .arg 1954, .int 0), true), ((0, .arg 1986, .int 0), true), ((0, .arg 2018, .int 0), true), zf98zzzb_5, ((0, .arg 1702, .int 0), true), ((0, .arg 3360, .int 0), true), ((0, .arg 1350, .int 0), true), ((0, .arg 1826, .int 0), true), zf98zzzb_6, zf98zzzb_7, zf98zzzb_8, zf98zzzb_9, ((0, .arg 1730, .int 0), true)], i_bz)
noncomputable def w_mb7o : List (sCut × List (Nat × sT) × List (Nat × sT × List (sT × sT))) := [(q_mc8T, [], [(64321, .arg 64321, []), (64353, .arg 64353, [])])]
theorem k_mb7o : cbody kR [(zWB, c_mco)] (cpl1 zWB c_bn1 [q_mc8T]) (cpl2 zWB c_bn1 [q_mc8T]) (cleafB kR zWB c_bn1 w_mb7o) 700 false false q_mb7o.2.2.1 q_mb7o.2.2.2 (cst zWB c_bn1.2.2.1.1 q_mb7o.1) (cst zWB c_bn1.2.2.1.2 q_mb7o.2.1) = true := by decide +kernel
theorem t_mb7o {X : pX} {ρ0 : sR} (hv : vok X ρ0) : CUTOK X kR zWB c_bn1 13 ρ0 q_mb7o := CUTOK_AT (fun ρ k1 hF hI k4 => AT_of (q := q_mb7o) rfl rfl (SEM_runB kR_x kR_0 (Cs := [(zWB, c_mco)]) (fun C hC => by rw [List.mem_singleton.mp hC]; exact s_mco) c_bn1_f (Q := w_mb7o) hv 700 (b1 := false) (b2 := false) k_mb7o k1 hF hI k4 (fun p hp ρ3 m1 m2 m3 m4 m5 m6 => by
  rw [List.mem_singleton.mp hp] at m2 m3 m5 m6 ⊢
  have eD : ρ3.1 1308 = ρ.1 1308 := (m4.1 1308 (by decide) (by decide)).1.trans (k4.1 1308 (by decide) (by decide)).1.symm
  obtain ⟨d0, d4⟩ := d_r hF.1
  have hB : ∀ j, ρ3.2.2.2.1 64353 j = ρ.2.2.2.1 64353 j := fun j => by
    have hw := m6 (64353, .arg 64353, []) (List.mem_cons_of_mem _ (List.mem_cons_self)) j
    have hw : Value.long (ρ3.2.2.2.1 64353 j) = Value.long (ρ.2.2.2.1 64353 j) := hw
    exact Value.long.inj hw
  have hA : ∀ j, ρ3.2.2.2.1 64321 j = ρ.2.2.2.1 64321 j := fun j => by
    have hw := m6 (64321, .arg 64321, []) (List.mem_cons_self) j
    have hw : Value.long (ρ3.2.2.2.1 64321 j) = Value.long (ρ.2.2.2.1 64321 j) := hw
    exact Value.long.inj hw
  have h7 := k157.mp (hF.2 _ (List.mem_cons_of_mem _ (List.mem_cons_of_mem _ (List.mem_cons_of_mem _ (List.mem_cons_of_mem _ (List.mem_cons_self))))))
  have h5 := k155.mp (hF.2 _ (List.mem_cons_of_mem _ (List.mem_cons_of_mem _ (List.mem_cons_of_mem _ (List.mem_cons_of_mem _ (List.mem_cons_of_mem _ (List.mem_cons_self)))))))
  have eB : ρ3.2.2.2.1 64353 = ρ.2.2.2.1 64353 := funext hB
  have ev : ρ.2.1 60033 = ρ.2.2.2.1 64321 105 := of_decide_eq_true (hF.2 _ (List.mem_cons_of_mem _ (List.mem_cons_of_mem _ (List.mem_cons_of_mem _ (List.mem_cons_self)))))
  have hc : (0 : Int) = amcode (ρ.2.2.2.1 64321) 105 (ρ.2.1 60033).toInt.toNat := of_decide_eq_true (hF.2 _ (List.mem_cons_of_mem _ (List.mem_cons_of_mem _ (List.mem_cons_self))))
  rw [ev] at hc
  have x7 : sc X ρ3 (157, .add (.elem (.arg 64321) (.int 0)) (.add (.elem (.arg 64353) (.int 0)) (.arg 1308)), .int 8) = true := k157.mpr (by
    rw [eB, eD]
    exact amn_c (K := 7) (m := 105) (by decide) rfl h7 h5 (Or.inl ⟨hc.symm, fun j _ => hA j⟩))
  have x5 : sc X ρ3 (155, .elem (.arg 64353) (.int 0), .int 0) = true := k155.mpr (by rw [eB]; exact h5)
  have z1 : sc X ρ3 (6, .elem (.arg 64321) (.int 1), .long 0) = true := decide_eq_true (show ρ3.2.2.2.1 64321 1 = 0 by
    rw [hA]
    exact of_decide_eq_true (hF.2 _ (List.mem_cons_of_mem _ (List.mem_cons_of_mem _ (List.mem_cons_of_mem _ (List.mem_cons_of_mem _ (List.mem_cons_of_mem _ (List.mem_cons_of_mem _ (List.mem_cons_self)))))))))
  have z2 : sc X ρ3 (6, .elem (.arg 64353) (.int 114), .long 0) = true := decide_eq_true (show ρ3.2.2.2.1 64353 114 = 0 by
    rw [hB]
    exact of_decide_eq_true (hF.2 _ (List.mem_cons_of_mem _ (List.mem_cons_of_mem _ (List.mem_cons_of_mem _ (List.mem_cons_of_mem _ (List.mem_cons_of_mem _ (List.mem_cons_of_mem _ (List.mem_cons_of_mem _ (List.mem_cons_self))))))))))
  have z3 : sc X ρ3 (6, .elem (.arg 64353) (.int 123), .long 0) = true := decide_eq_true (show ρ3.2.2.2.1 64353 123 = 0 by
    rw [hB]
    exact of_decide_eq_true (hF.2 _ (List.mem_cons_of_mem _ (List.mem_cons_of_mem _ (List.mem_cons_of_mem _ (List.mem_cons_of_mem _ (List.mem_cons_of_mem _ (List.mem_cons_of_mem _ (List.mem_cons_of_mem _ (List.mem_cons_of_mem _ (List.mem_cons_self)))))))))))
  exact t_mc8 hv ρ3 m1 ⟨m2.1, fcn (x7) (fcn (x5) (fcn (z1) (fcn (z2) (fcn (z3) (m2.2)))))⟩ m3 m4)))
noncomputable def q_mb7n : sCut := ((fr 0 95 19 [(0, tr 75), (1, .int 90), (2, .int 3), (3, .int 105)] [.arg 60033, .int 105, tr 42], [fr 0 93 73 [(0, tr 75)] [], fr 0 60 30 [(0, tr 39), (1, .int 1)] [], fBot], 11), (fr 0 297 64 [(0, tr 219), (1, .arg 1308)] [], [fr 0 300 36 [(0, tr 219), (1, .arg 1308)] [], fBot], 12), [zf98zzzb_76, zf98zzzb_77, ((139, .add (.elem (.arg 64321) (.int 0)) (.add (.int 105) (.arg 60033)), .int 100925505), true), zf98zzzb_74, zf98zzzb_75, zf98zzzb_12, zf98zzzb_13, zf98zzzb_14, zf98zzzb_15, ((0, .arg 2816, .int 1), true), zf98zzzb_0, zf98zzzb_1, zf98zzzb_2, zf98zzzb_3, zf98zzzb_4, ((0, .arg 1698, .int 0), true), ((0, .arg 1300, .int 0), true), ((0, .arg 1302, .int 0), true), ((0, .arg 1430, .int 0), true), ((0, .arg 1318, .int 0), true), ((0, .arg 3232, .int 0), true), ((0, .arg 2050, .int 0), true), ((0, .arg 3264, .int 0), true), ((0, .arg 3296, .int 0), true), ((0, .arg 3328, .int 0), true), ((0, .arg 3168, .int 0), true), ((0, .arg 1858, .int 0), true), ((0, .arg 1890, .int 0), true), ((0, .arg 1922, .int 0), true), ((0, .arg 3008, .int 0), true), ((0, .arg 1954, .int 0), true), ((0, .arg 1986, .int 0), true), ((0, .arg 2018, .int 0), true), zf98zzzb_5, ((0, .arg 1702, .int 0), true), ((0, .arg 3360, .int 0), true), ((0, .arg 1350, .int 0), true), ((0, .arg 1826, .int 0), true), zf98zzzb_6, zf98zzzb_7, zf98zzzb_8, zf98zzzb_9, ((0, .arg 1730, .int 0), true)], i_bz)
noncomputable def w_mb7n : List (sCut × List (Nat × sT) × List (Nat × sT × List (sT × sT))) := [(q_mc8T, [], [(64321, .arg 64321, [(.int 109, .long 0), (.int 108, .long 0), (.int 107, .long 0), (.int 106, .long 0), (.int 105, .long 0)]), (64353, .arg 64353, [])])]
theorem k_mb7n : cbody kR [(zWB, c_mcn)] (cpl1 zWB c_bn1 [q_mc8T]) (cpl2 zWB c_bn1 [q_mc8T]) (cleafB kR zWB c_bn1 w_mb7n) 700 false false q_mb7n.2.2.1 q_mb7n.2.2.2 (cst zWB c_bn1.2.2.1.1 q_mb7n.1) (cst zWB c_bn1.2.2.1.2 q_mb7n.2.1) = true := by decide +kernel
theorem t_mb7n {X : pX} {ρ0 : sR} (hv : vok X ρ0) : CUTOK X kR zWB c_bn1 13 ρ0 q_mb7n := CUTOK_AT (fun ρ k1 hF hI k4 => AT_of (q := q_mb7n) rfl rfl (SEM_runB kR_x kR_0 (Cs := [(zWB, c_mcn)]) (fun C hC => by rw [List.mem_singleton.mp hC]; exact s_mcn) c_bn1_f (Q := w_mb7n) hv 700 (b1 := false) (b2 := false) k_mb7n k1 hF hI k4 (fun p hp ρ3 m1 m2 m3 m4 m5 m6 => by
  rw [List.mem_singleton.mp hp] at m2 m3 m5 m6 ⊢
  have eD : ρ3.1 1308 = ρ.1 1308 := (m4.1 1308 (by decide) (by decide)).1.trans (k4.1 1308 (by decide) (by decide)).1.symm
  obtain ⟨d0, d4⟩ := d_r hF.1
  have hB : ∀ j, ρ3.2.2.2.1 64353 j = ρ.2.2.2.1 64353 j := fun j => by
    have hw := m6 (64353, .arg 64353, []) (List.mem_cons_of_mem _ (List.mem_cons_self)) j
    have hw : Value.long (ρ3.2.2.2.1 64353 j) = Value.long (ρ.2.2.2.1 64353 j) := hw
    exact Value.long.inj hw
  obtain ⟨hAn, hAf⟩ := fiv_w (f := ρ.2.2.2.1 64321) (g := ρ3.2.2.2.1 64321) (m := 105) (d := (ρ.1 1308).toInt) (v0 := 0) (v1 := 0) (v2 := 0) (v3 := 0) (v4 := 0) (fun j => m6 (64321, .arg 64321, [(.int 109, .long 0), (.int 108, .long 0), (.int 107, .long 0), (.int 106, .long 0), (.int 105, .long 0)]) (List.mem_cons_self) j) (amw_105 d0 d4 (i := 0) (by decide)) (amw_105 d0 d4 (i := 1) (by decide)) (amw_105 d0 d4 (i := 2) (by decide)) (amw_105 d0 d4 (i := 3) (by decide)) (amw_105 d0 d4 (i := 4) (by decide))
  have h7 := k157.mp (hF.2 _ (List.mem_cons_of_mem _ (List.mem_cons_of_mem _ (List.mem_cons_of_mem _ (List.mem_cons_of_mem _ (List.mem_cons_self))))))
  have h5 := k155.mp (hF.2 _ (List.mem_cons_of_mem _ (List.mem_cons_of_mem _ (List.mem_cons_of_mem _ (List.mem_cons_of_mem _ (List.mem_cons_of_mem _ (List.mem_cons_self)))))))
  have eB : ρ3.2.2.2.1 64353 = ρ.2.2.2.1 64353 := funext hB
  have ev : ρ.2.1 60033 = ρ.2.2.2.1 64321 105 := of_decide_eq_true (hF.2 _ (List.mem_cons_of_mem _ (List.mem_cons_of_mem _ (List.mem_cons_of_mem _ (List.mem_cons_self)))))
  have hc : (100925505 : Int) = amcode (ρ.2.2.2.1 64321) 105 (ρ.2.1 60033).toInt.toNat := of_decide_eq_true (hF.2 _ (List.mem_cons_of_mem _ (List.mem_cons_of_mem _ (List.mem_cons_self))))
  rw [ev] at hc
  have x7 : sc X ρ3 (157, .add (.elem (.arg 64321) (.int 0)) (.add (.elem (.arg 64353) (.int 0)) (.arg 1308)), .int 8) = true := k157.mpr (by
    rw [eB, eD]
    exact amn_c (K := 7) (m := 105) (by decide) rfl h7 h5 (Or.inr ⟨by rw [← hc]; decide, fun j hj => by
    by_cases hi : 105 ≤ j ∧ j < 105 + 5
    · rw [if_pos hi]; exact hAf j hi.1 hi.2
    · rw [if_neg hi, hAn j hi]⟩))
  have x5 : sc X ρ3 (155, .elem (.arg 64353) (.int 0), .int 0) = true := k155.mpr (by rw [eB]; exact h5)
  have z1 : sc X ρ3 (6, .elem (.arg 64321) (.int 1), .long 0) = true := decide_eq_true (show ρ3.2.2.2.1 64321 1 = 0 by
    rw [hAn 1 (by decide)]
    exact of_decide_eq_true (hF.2 _ (List.mem_cons_of_mem _ (List.mem_cons_of_mem _ (List.mem_cons_of_mem _ (List.mem_cons_of_mem _ (List.mem_cons_of_mem _ (List.mem_cons_of_mem _ (List.mem_cons_self)))))))))
  have z2 : sc X ρ3 (6, .elem (.arg 64353) (.int 114), .long 0) = true := decide_eq_true (show ρ3.2.2.2.1 64353 114 = 0 by
    rw [hB]
    exact of_decide_eq_true (hF.2 _ (List.mem_cons_of_mem _ (List.mem_cons_of_mem _ (List.mem_cons_of_mem _ (List.mem_cons_of_mem _ (List.mem_cons_of_mem _ (List.mem_cons_of_mem _ (List.mem_cons_of_mem _ (List.mem_cons_self))))))))))
  have z3 : sc X ρ3 (6, .elem (.arg 64353) (.int 123), .long 0) = true := decide_eq_true (show ρ3.2.2.2.1 64353 123 = 0 by
    rw [hB]
    exact of_decide_eq_true (hF.2 _ (List.mem_cons_of_mem _ (List.mem_cons_of_mem _ (List.mem_cons_of_mem _ (List.mem_cons_of_mem _ (List.mem_cons_of_mem _ (List.mem_cons_of_mem _ (List.mem_cons_of_mem _ (List.mem_cons_of_mem _ (List.mem_cons_self)))))))))))
  exact t_mc8 hv ρ3 m1 ⟨m2.1, fcn (x7) (fcn (x5) (fcn (z1) (fcn (z2) (fcn (z3) (m2.2)))))⟩ m3 m4)))
noncomputable def q_mb7l : sCut := ((fr 0 95 19 [(0, tr 75), (1, .int 90), (2, .int 3), (3, .int 105)] [.arg 60033, .int 105, tr 42], [fr 0 93 73 [(0, tr 75)] [], fr 0 60 30 [(0, tr 39), (1, .int 1)] [], fBot], 11), (fr 0 297 64 [(0, tr 219), (1, .arg 1308)] [], [fr 0 300 36 [(0, tr 219), (1, .arg 1308)] [], fBot], 12), [zf98zzzb_76, zf98zzzb_77, ((139, .add (.elem (.arg 64321) (.int 0)) (.add (.int 105) (.arg 60033)), .int 100925506), true), zf98zzzb_74, zf98zzzb_75, zf98zzzb_12, zf98zzzb_13, zf98zzzb_14, zf98zzzb_15, ((0, .arg 2816, .int 1), true), zf98zzzb_0, zf98zzzb_1, zf98zzzb_2, zf98zzzb_3, zf98zzzb_4, ((0, .arg 1698, .int 0), true), ((0, .arg 1300, .int 0), true), ((0, .arg 1302, .int 0), true), ((0, .arg 1430, .int 0), true), ((0, .arg 1318, .int 0), true), ((0, .arg 3232, .int 0), true), ((0, .arg 2050, .int 0), true), ((0, .arg 3264, .int 0), true), ((0, .arg 3296, .int 0), true), ((0, .arg 3328, .int 0), true), ((0, .arg 3168, .int 0), true), ((0, .arg 1858, .int 0), true), ((0, .arg 1890, .int 0), true), ((0, .arg 1922, .int 0), true), ((0, .arg 3008, .int 0), true), ((0, .arg 1954, .int 0), true), ((0, .arg 1986, .int 0), true), ((0, .arg 2018, .int 0), true), zf98zzzb_5, ((0, .arg 1702, .int 0), true), ((0, .arg 3360, .int 0), true), ((0, .arg 1350, .int 0), true), ((0, .arg 1826, .int 0), true), zf98zzzb_6, zf98zzzb_7, zf98zzzb_8, zf98zzzb_9, ((0, .arg 1730, .int 0), true)], i_bz)
noncomputable def w_mb7l : List (sCut × List (Nat × sT) × List (Nat × sT × List (sT × sT))) := [(q_mc8T, [], [(64321, .arg 64321, [(.int 109, .long 0), (.int 108, .long 0), (.int 107, .long 0), (.int 106, .long 0), (.int 105, .long 0)]), (64353, .arg 64353, [])])]
theorem k_mb7l : cbody kR [(zWB, c_mcl)] (cpl1 zWB c_bn1 [q_mc8T]) (cpl2 zWB c_bn1 [q_mc8T]) (cleafB kR zWB c_bn1 w_mb7l) 700 false false q_mb7l.2.2.1 q_mb7l.2.2.2 (cst zWB c_bn1.2.2.1.1 q_mb7l.1) (cst zWB c_bn1.2.2.1.2 q_mb7l.2.1) = true := by decide +kernel
theorem t_mb7l {X : pX} {ρ0 : sR} (hv : vok X ρ0) : CUTOK X kR zWB c_bn1 13 ρ0 q_mb7l := CUTOK_AT (fun ρ k1 hF hI k4 => AT_of (q := q_mb7l) rfl rfl (SEM_runB kR_x kR_0 (Cs := [(zWB, c_mcl)]) (fun C hC => by rw [List.mem_singleton.mp hC]; exact s_mcl) c_bn1_f (Q := w_mb7l) hv 700 (b1 := false) (b2 := false) k_mb7l k1 hF hI k4 (fun p hp ρ3 m1 m2 m3 m4 m5 m6 => by
  rw [List.mem_singleton.mp hp] at m2 m3 m5 m6 ⊢
  have eD : ρ3.1 1308 = ρ.1 1308 := (m4.1 1308 (by decide) (by decide)).1.trans (k4.1 1308 (by decide) (by decide)).1.symm
  obtain ⟨d0, d4⟩ := d_r hF.1
  have hB : ∀ j, ρ3.2.2.2.1 64353 j = ρ.2.2.2.1 64353 j := fun j => by
    have hw := m6 (64353, .arg 64353, []) (List.mem_cons_of_mem _ (List.mem_cons_self)) j
    have hw : Value.long (ρ3.2.2.2.1 64353 j) = Value.long (ρ.2.2.2.1 64353 j) := hw
    exact Value.long.inj hw
  obtain ⟨hAn, hAf⟩ := fiv_w (f := ρ.2.2.2.1 64321) (g := ρ3.2.2.2.1 64321) (m := 105) (d := (ρ.1 1308).toInt) (v0 := 0) (v1 := 0) (v2 := 0) (v3 := 0) (v4 := 0) (fun j => m6 (64321, .arg 64321, [(.int 109, .long 0), (.int 108, .long 0), (.int 107, .long 0), (.int 106, .long 0), (.int 105, .long 0)]) (List.mem_cons_self) j) (amw_105 d0 d4 (i := 0) (by decide)) (amw_105 d0 d4 (i := 1) (by decide)) (amw_105 d0 d4 (i := 2) (by decide)) (amw_105 d0 d4 (i := 3) (by decide)) (amw_105 d0 d4 (i := 4) (by decide))
  have h7 := k157.mp (hF.2 _ (List.mem_cons_of_mem _ (List.mem_cons_of_mem _ (List.mem_cons_of_mem _ (List.mem_cons_of_mem _ (List.mem_cons_self))))))
  have h5 := k155.mp (hF.2 _ (List.mem_cons_of_mem _ (List.mem_cons_of_mem _ (List.mem_cons_of_mem _ (List.mem_cons_of_mem _ (List.mem_cons_of_mem _ (List.mem_cons_self)))))))
  have eB : ρ3.2.2.2.1 64353 = ρ.2.2.2.1 64353 := funext hB
  have ev : ρ.2.1 60033 = ρ.2.2.2.1 64321 105 := of_decide_eq_true (hF.2 _ (List.mem_cons_of_mem _ (List.mem_cons_of_mem _ (List.mem_cons_of_mem _ (List.mem_cons_self)))))
  have hc : (100925506 : Int) = amcode (ρ.2.2.2.1 64321) 105 (ρ.2.1 60033).toInt.toNat := of_decide_eq_true (hF.2 _ (List.mem_cons_of_mem _ (List.mem_cons_of_mem _ (List.mem_cons_self))))
  rw [ev] at hc
  have x7 : sc X ρ3 (157, .add (.elem (.arg 64321) (.int 0)) (.add (.elem (.arg 64353) (.int 0)) (.arg 1308)), .int 8) = true := k157.mpr (by
    rw [eB, eD]
    exact amn_c (K := 7) (m := 105) (by decide) rfl h7 h5 (Or.inr ⟨by rw [← hc]; decide, fun j hj => by
    by_cases hi : 105 ≤ j ∧ j < 105 + 5
    · rw [if_pos hi]; exact hAf j hi.1 hi.2
    · rw [if_neg hi, hAn j hi]⟩))
  have x5 : sc X ρ3 (155, .elem (.arg 64353) (.int 0), .int 0) = true := k155.mpr (by rw [eB]; exact h5)
  have z1 : sc X ρ3 (6, .elem (.arg 64321) (.int 1), .long 0) = true := decide_eq_true (show ρ3.2.2.2.1 64321 1 = 0 by
    rw [hAn 1 (by decide)]
    exact of_decide_eq_true (hF.2 _ (List.mem_cons_of_mem _ (List.mem_cons_of_mem _ (List.mem_cons_of_mem _ (List.mem_cons_of_mem _ (List.mem_cons_of_mem _ (List.mem_cons_of_mem _ (List.mem_cons_self)))))))))
  have z2 : sc X ρ3 (6, .elem (.arg 64353) (.int 114), .long 0) = true := decide_eq_true (show ρ3.2.2.2.1 64353 114 = 0 by
    rw [hB]
    exact of_decide_eq_true (hF.2 _ (List.mem_cons_of_mem _ (List.mem_cons_of_mem _ (List.mem_cons_of_mem _ (List.mem_cons_of_mem _ (List.mem_cons_of_mem _ (List.mem_cons_of_mem _ (List.mem_cons_of_mem _ (List.mem_cons_self))))))))))
  have z3 : sc X ρ3 (6, .elem (.arg 64353) (.int 123), .long 0) = true := decide_eq_true (show ρ3.2.2.2.1 64353 123 = 0 by
    rw [hB]
    exact of_decide_eq_true (hF.2 _ (List.mem_cons_of_mem _ (List.mem_cons_of_mem _ (List.mem_cons_of_mem _ (List.mem_cons_of_mem _ (List.mem_cons_of_mem _ (List.mem_cons_of_mem _ (List.mem_cons_of_mem _ (List.mem_cons_of_mem _ (List.mem_cons_self)))))))))))
  exact t_mc8 hv ρ3 m1 ⟨m2.1, fcn (x7) (fcn (x5) (fcn (z1) (fcn (z2) (fcn (z3) (m2.2)))))⟩ m3 m4)))
theorem t_mb7 {X : pX} {ρ0 : sR} (hv : vok X ρ0) : CUTOK X kR zWB c_bn1 13 ρ0 q_mb7 := fun ρ k1 hF hI k4 => by
  have h5 := k155.mp (hF.2 _ (List.mem_cons_of_mem _ (List.mem_cons_of_mem _ (List.mem_cons_self))))
  have h7 := (k157.mp (hF.2 _ (List.mem_cons_of_mem _ (List.mem_cons_self))) 105 (by decide)).resolve_left (by decide)
  have eA : (ρ.2.2.2.1 64321 105).toInt = (ρ.2.2.2.1 64353 105).toInt := h7.trans (amn_i (K := 7) (m := 105) (by decide) (by decide) rfl (by decide) (by decide))
  obtain ⟨v0, v4⟩ := ev_m4 (m := 105) (by decide) (h5 105 (by decide))
  rw [← eA] at v0 v4
  have ev : ρ.2.1 60033 = ρ.2.2.2.1 64321 105 := of_decide_eq_true (hF.2 _ (List.mem_cons_self))
  rw [← ev] at v0 v4
  rcases am_3 (g := ρ.2.2.2.1 64321) (m := 105) (n := (ρ.2.1 60033).toInt.toNat) with h | h | h
  · exact t_mb7o hv ρ k1 ⟨hF.1, fcn (dl_lf (x := ρ.2.1 60033) (y := 0) (show (0 : Int) ≤ _ from v0)) (fcn (dl_lf (x := 4) (y := ρ.2.1 60033) (show _ ≤ (4 : Int) from v4)) (fcn (decide_eq_true (show (0 : Int) = amcode (ρ.2.2.2.1 64321) 105 (ρ.2.1 60033).toInt.toNat from h.symm)) (hF.2)))⟩ hI k4
  · exact t_mb7n hv ρ k1 ⟨hF.1, fcn (dl_lf (x := ρ.2.1 60033) (y := 0) (show (0 : Int) ≤ _ from v0)) (fcn (dl_lf (x := 4) (y := ρ.2.1 60033) (show _ ≤ (4 : Int) from v4)) (fcn (decide_eq_true (show (100925505 : Int) = amcode (ρ.2.2.2.1 64321) 105 (ρ.2.1 60033).toInt.toNat from h.symm)) (hF.2)))⟩ hI k4
  · exact t_mb7l hv ρ k1 ⟨hF.1, fcn (dl_lf (x := ρ.2.1 60033) (y := 0) (show (0 : Int) ≤ _ from v0)) (fcn (dl_lf (x := 4) (y := ρ.2.1 60033) (show _ ≤ (4 : Int) from v4)) (fcn (decide_eq_true (show (100925506 : Int) = amcode (ρ.2.2.2.1 64321) 105 (ρ.2.1 60033).toInt.toNat from h.symm)) (hF.2)))⟩ hI k4
noncomputable def q_mc7 : sCut := ((fr 0 95 34 [(0, tr 75), (1, .int 90), (2, .int 2)] [], [fr 0 93 73 [(0, tr 75)] [], fr 0 60 30 [(0, tr 39), (1, .int 1)] [], fBot], 11), (fr 0 297 64 [(0, tr 219), (1, .arg 1308)] [], [fr 0 300 36 [(0, tr 219), (1, .arg 1308)] [], fBot], 12), [zf98zzzb_75, zf98zzzb_12, zf98zzzb_13, zf98zzzb_14, zf98zzzb_15, ((0, .arg 2816, .int 1), true), zf98zzzb_0, zf98zzzb_1, zf98zzzb_2, zf98zzzb_3, zf98zzzb_4, ((0, .arg 1698, .int 0), true), ((0, .arg 1300, .int 0), true), ((0, .arg 1302, .int 0), true), ((0, .arg 1430, .int 0), true), ((0, .arg 1318, .int 0), true), ((0, .arg 3232, .int 0), true), ((0, .arg 2050, .int 0), true), ((0, .arg 3264, .int 0), true), ((0, .arg 3296, .int 0), true), ((0, .arg 3328, .int 0), true), ((0, .arg 3168, .int 0), true), ((0, .arg 1858, .int 0), true), ((0, .arg 1890, .int 0), true), ((0, .arg 1922, .int 0), true), ((0, .arg 3008, .int 0), true), ((0, .arg 1954, .int 0), true), ((0, .arg 1986, .int 0), true), ((0, .arg 2018, .int 0), true), zf98zzzb_5, ((0, .arg 1702, .int 0), true), ((0, .arg 3360, .int 0), true), ((0, .arg 1350, .int 0), true), ((0, .arg 1826, .int 0), true), zf98zzzb_6, zf98zzzb_7, zf98zzzb_8, zf98zzzb_9, ((0, .arg 1730, .int 0), true)], i_bz)
theorem k_mc7 : cbody kR [] (cpl1 zWB c_bn1 [q_mb7]) (cpl2 zWB c_bn1 [q_mb7]) (cleaf kR zWB c_bn1 [q_mb7]) 60 true false q_mc7.2.2.1 q_mc7.2.2.2 (cst zWB c_bn1.2.2.1.1 q_mc7.1) (cst zWB c_bn1.2.2.1.2 q_mc7.2.1) = true := by decide +kernel
theorem t_mc7 {X : pX} {ρ0 : sR} (hv : vok X ρ0) : CUTOK X kR zWB c_bn1 13 ρ0 q_mc7 := CUT_run kR_x kR_0 (Cs := []) (fun C hC => by cases hC) c_bn1_f (Q := [q_mb7]) hv (fun q hq => by
    simp only [List.mem_cons, List.not_mem_nil, or_false] at hq
    rw [hq]; exact t_mb7 hv) 60 (b1 := true) (b2 := false) k_mc7
noncomputable def zf98zzzb_78 : sQ × Bool := ((6, .arg 60033, .elem (.arg 64321) (.int 100)), true)
noncomputable def zf98zzzb_79 : sQ × Bool := ((157, .add (.elem (.arg 64321) (.int 0)) (.add (.elem (.arg 64353) (.int 0)) (.arg 1308)), .int 6), true)
noncomputable def q_mb6 : sCut := ((fr 0 95 19 [(0, tr 75), (1, .int 90), (2, .int 2), (3, .int 100)] [.arg 60033, .int 100, tr 42], [fr 0 93 73 [(0, tr 75)] [], fr 0 60 30 [(0, tr 39), (1, .int 1)] [], fBot], 11), (fr 0 297 64 [(0, tr 219), (1, .arg 1308)] [], [fr 0 300 36 [(0, tr 219), (1, .arg 1308)] [], fBot], 12), [zf98zzzb_78, zf98zzzb_79, zf98zzzb_12, zf98zzzb_13, zf98zzzb_14, zf98zzzb_15, ((0, .arg 2816, .int 1), true), zf98zzzb_0, zf98zzzb_1, zf98zzzb_2, zf98zzzb_3, zf98zzzb_4, ((0, .arg 1698, .int 0), true), ((0, .arg 1300, .int 0), true), ((0, .arg 1302, .int 0), true), ((0, .arg 1430, .int 0), true), ((0, .arg 1318, .int 0), true), ((0, .arg 3232, .int 0), true), ((0, .arg 2050, .int 0), true), ((0, .arg 3264, .int 0), true), ((0, .arg 3296, .int 0), true), ((0, .arg 3328, .int 0), true), ((0, .arg 3168, .int 0), true), ((0, .arg 1858, .int 0), true), ((0, .arg 1890, .int 0), true), ((0, .arg 1922, .int 0), true), ((0, .arg 3008, .int 0), true), ((0, .arg 1954, .int 0), true), ((0, .arg 1986, .int 0), true), ((0, .arg 2018, .int 0), true), zf98zzzb_5, ((0, .arg 1702, .int 0), true), ((0, .arg 3360, .int 0), true), ((0, .arg 1350, .int 0), true), ((0, .arg 1826, .int 0), true), zf98zzzb_6, zf98zzzb_7, zf98zzzb_8, zf98zzzb_9, ((0, .arg 1730, .int 0), true)], i_bz)
noncomputable def q_mb6o : sCut := ((fr 0 95 19 [(0, tr 75), (1, .int 90), (2, .int 2), (3, .int 100)] [.arg 60033, .int 100, tr 42], [fr 0 93 73 [(0, tr 75)] [], fr 0 60 30 [(0, tr 39), (1, .int 1)] [], fBot], 11), (fr 0 297 64 [(0, tr 219), (1, .arg 1308)] [], [fr 0 300 36 [(0, tr 219), (1, .arg 1308)] [], fBot], 12), [zf98zzzb_76, zf98zzzb_77, ((139, .add (.elem (.arg 64321) (.int 0)) (.add (.int 100) (.arg 60033)), .int 0), true), zf98zzzb_78, zf98zzzb_79, zf98zzzb_12, zf98zzzb_13, zf98zzzb_14, zf98zzzb_15, ((0, .arg 2816, .int 1), true), zf98zzzb_0, zf98zzzb_1, zf98zzzb_2, zf98zzzb_3, zf98zzzb_4, ((0, .arg 1698, .int 0), true), ((0, .arg 1300, .int 0), true), ((0, .arg 1302, .int 0), true), ((0, .arg 1430, .int 0), true), ((0, .arg 1318, .int 0), true), ((0, .arg 3232, .int 0), true), ((0, .arg 2050, .int 0), true), ((0, .arg 3264, .int 0), true), ((0, .arg 3296, .int 0), true), ((0, .arg 3328, .int 0), true), ((0, .arg 3168, .int 0), true), ((0, .arg 1858, .int 0), true), ((0, .arg 1890, .int 0), true), ((0, .arg 1922, .int 0), true), ((0, .arg 3008, .int 0), true), ((0, .arg 1954, .int 0), true), ((0, .arg 1986, .int 0), true), ((0, .arg 2018, .int 0), true), zf98zzzb_5, ((0, .arg 1702, .int 0), true), ((0, .arg 3360, .int 0), true), ((0, .arg 1350, .int 0), true), ((0, .arg 1826, .int 0), true), zf98zzzb_6, zf98zzzb_7, zf98zzzb_8, zf98zzzb_9, ((0, .arg 1730, .int 0), true)], i_bz)
noncomputable def w_mb6o : List (sCut × List (Nat × sT) × List (Nat × sT × List (sT × sT))) := [(q_mc7T, [], [(64321, .arg 64321, []), (64353, .arg 64353, [])])]
theorem k_mb6o : cbody kR [(zWB, c_mco)] (cpl1 zWB c_bn1 [q_mc7T]) (cpl2 zWB c_bn1 [q_mc7T]) (cleafB kR zWB c_bn1 w_mb6o) 700 false false q_mb6o.2.2.1 q_mb6o.2.2.2 (cst zWB c_bn1.2.2.1.1 q_mb6o.1) (cst zWB c_bn1.2.2.1.2 q_mb6o.2.1) = true := by decide +kernel
theorem t_mb6o {X : pX} {ρ0 : sR} (hv : vok X ρ0) : CUTOK X kR zWB c_bn1 13 ρ0 q_mb6o := CUTOK_AT (fun ρ k1 hF hI k4 => AT_of (q := q_mb6o) rfl rfl (SEM_runB kR_x kR_0 (Cs := [(zWB, c_mco)]) (fun C hC => by rw [List.mem_singleton.mp hC]; exact s_mco) c_bn1_f (Q := w_mb6o) hv 700 (b1 := false) (b2 := false) k_mb6o k1 hF hI k4 (fun p hp ρ3 m1 m2 m3 m4 m5 m6 => by
  rw [List.mem_singleton.mp hp] at m2 m3 m5 m6 ⊢
  have eD : ρ3.1 1308 = ρ.1 1308 := (m4.1 1308 (by decide) (by decide)).1.trans (k4.1 1308 (by decide) (by decide)).1.symm
  obtain ⟨d0, d4⟩ := d_r hF.1
  have hB : ∀ j, ρ3.2.2.2.1 64353 j = ρ.2.2.2.1 64353 j := fun j => by
    have hw := m6 (64353, .arg 64353, []) (List.mem_cons_of_mem _ (List.mem_cons_self)) j
    have hw : Value.long (ρ3.2.2.2.1 64353 j) = Value.long (ρ.2.2.2.1 64353 j) := hw
    exact Value.long.inj hw
  have hA : ∀ j, ρ3.2.2.2.1 64321 j = ρ.2.2.2.1 64321 j := fun j => by
    have hw := m6 (64321, .arg 64321, []) (List.mem_cons_self) j
    have hw : Value.long (ρ3.2.2.2.1 64321 j) = Value.long (ρ.2.2.2.1 64321 j) := hw
    exact Value.long.inj hw
  have h7 := k157.mp (hF.2 _ (List.mem_cons_of_mem _ (List.mem_cons_of_mem _ (List.mem_cons_of_mem _ (List.mem_cons_of_mem _ (List.mem_cons_self))))))
  have h5 := k155.mp (hF.2 _ (List.mem_cons_of_mem _ (List.mem_cons_of_mem _ (List.mem_cons_of_mem _ (List.mem_cons_of_mem _ (List.mem_cons_of_mem _ (List.mem_cons_self)))))))
  have eB : ρ3.2.2.2.1 64353 = ρ.2.2.2.1 64353 := funext hB
  have ev : ρ.2.1 60033 = ρ.2.2.2.1 64321 100 := of_decide_eq_true (hF.2 _ (List.mem_cons_of_mem _ (List.mem_cons_of_mem _ (List.mem_cons_of_mem _ (List.mem_cons_self)))))
  have hc : (0 : Int) = amcode (ρ.2.2.2.1 64321) 100 (ρ.2.1 60033).toInt.toNat := of_decide_eq_true (hF.2 _ (List.mem_cons_of_mem _ (List.mem_cons_of_mem _ (List.mem_cons_self))))
  rw [ev] at hc
  have x7 : sc X ρ3 (157, .add (.elem (.arg 64321) (.int 0)) (.add (.elem (.arg 64353) (.int 0)) (.arg 1308)), .int 7) = true := k157.mpr (by
    rw [eB, eD]
    exact amn_c (K := 6) (m := 100) (by decide) rfl h7 h5 (Or.inl ⟨hc.symm, fun j _ => hA j⟩))
  have x5 : sc X ρ3 (155, .elem (.arg 64353) (.int 0), .int 0) = true := k155.mpr (by rw [eB]; exact h5)
  have z1 : sc X ρ3 (6, .elem (.arg 64321) (.int 1), .long 0) = true := decide_eq_true (show ρ3.2.2.2.1 64321 1 = 0 by
    rw [hA]
    exact of_decide_eq_true (hF.2 _ (List.mem_cons_of_mem _ (List.mem_cons_of_mem _ (List.mem_cons_of_mem _ (List.mem_cons_of_mem _ (List.mem_cons_of_mem _ (List.mem_cons_of_mem _ (List.mem_cons_self)))))))))
  have z2 : sc X ρ3 (6, .elem (.arg 64353) (.int 114), .long 0) = true := decide_eq_true (show ρ3.2.2.2.1 64353 114 = 0 by
    rw [hB]
    exact of_decide_eq_true (hF.2 _ (List.mem_cons_of_mem _ (List.mem_cons_of_mem _ (List.mem_cons_of_mem _ (List.mem_cons_of_mem _ (List.mem_cons_of_mem _ (List.mem_cons_of_mem _ (List.mem_cons_of_mem _ (List.mem_cons_self))))))))))
  have z3 : sc X ρ3 (6, .elem (.arg 64353) (.int 123), .long 0) = true := decide_eq_true (show ρ3.2.2.2.1 64353 123 = 0 by
    rw [hB]
    exact of_decide_eq_true (hF.2 _ (List.mem_cons_of_mem _ (List.mem_cons_of_mem _ (List.mem_cons_of_mem _ (List.mem_cons_of_mem _ (List.mem_cons_of_mem _ (List.mem_cons_of_mem _ (List.mem_cons_of_mem _ (List.mem_cons_of_mem _ (List.mem_cons_self)))))))))))
  exact t_mc7 hv ρ3 m1 ⟨m2.1, fcn (x7) (fcn (x5) (fcn (z1) (fcn (z2) (fcn (z3) (m2.2)))))⟩ m3 m4)))
noncomputable def q_mb6n : sCut := ((fr 0 95 19 [(0, tr 75), (1, .int 90), (2, .int 2), (3, .int 100)] [.arg 60033, .int 100, tr 42], [fr 0 93 73 [(0, tr 75)] [], fr 0 60 30 [(0, tr 39), (1, .int 1)] [], fBot], 11), (fr 0 297 64 [(0, tr 219), (1, .arg 1308)] [], [fr 0 300 36 [(0, tr 219), (1, .arg 1308)] [], fBot], 12), [zf98zzzb_76, zf98zzzb_77, ((139, .add (.elem (.arg 64321) (.int 0)) (.add (.int 100) (.arg 60033)), .int 100925505), true), zf98zzzb_78, zf98zzzb_79, zf98zzzb_12, zf98zzzb_13, zf98zzzb_14, zf98zzzb_15, ((0, .arg 2816, .int 1), true), zf98zzzb_0, zf98zzzb_1, zf98zzzb_2, zf98zzzb_3, zf98zzzb_4, ((0, .arg 1698, .int 0), true), ((0, .arg 1300, .int 0), true), ((0, .arg 1302, .int 0), true), ((0, .arg 1430, .int 0), true), ((0, .arg 1318, .int 0), true), ((0, .arg 3232, .int 0), true), ((0, .arg 2050, .int 0), true), ((0, .arg 3264, .int 0), true), ((0, .arg 3296, .int 0), true), ((0, .arg 3328, .int 0), true), ((0, .arg 3168, .int 0), true), ((0, .arg 1858, .int 0), true), ((0, .arg 1890, .int 0), true), ((0, .arg 1922, .int 0), true), ((0, .arg 3008, .int 0), true), ((0, .arg 1954, .int 0), true), ((0, .arg 1986, .int 0), true), ((0, .arg 2018, .int 0), true), zf98zzzb_5, ((0, .arg 1702, .int 0), true), ((0, .arg 3360, .int 0), true), ((0, .arg 1350, .int 0), true), ((0, .arg 1826, .int 0), true), zf98zzzb_6, zf98zzzb_7, zf98zzzb_8, zf98zzzb_9, ((0, .arg 1730, .int 0), true)], i_bz)
noncomputable def w_mb6n : List (sCut × List (Nat × sT) × List (Nat × sT × List (sT × sT))) := [(q_mc7T, [], [(64321, .arg 64321, [(.int 104, .long 0), (.int 103, .long 0), (.int 102, .long 0), (.int 101, .long 0), (.int 100, .long 0)]), (64353, .arg 64353, [])])]
theorem k_mb6n : cbody kR [(zWB, c_mcn)] (cpl1 zWB c_bn1 [q_mc7T]) (cpl2 zWB c_bn1 [q_mc7T]) (cleafB kR zWB c_bn1 w_mb6n) 700 false false q_mb6n.2.2.1 q_mb6n.2.2.2 (cst zWB c_bn1.2.2.1.1 q_mb6n.1) (cst zWB c_bn1.2.2.1.2 q_mb6n.2.1) = true := by decide +kernel
theorem t_mb6n {X : pX} {ρ0 : sR} (hv : vok X ρ0) : CUTOK X kR zWB c_bn1 13 ρ0 q_mb6n := CUTOK_AT (fun ρ k1 hF hI k4 => AT_of (q := q_mb6n) rfl rfl (SEM_runB kR_x kR_0 (Cs := [(zWB, c_mcn)]) (fun C hC => by rw [List.mem_singleton.mp hC]; exact s_mcn) c_bn1_f (Q := w_mb6n) hv 700 (b1 := false) (b2 := false) k_mb6n k1 hF hI k4 (fun p hp ρ3 m1 m2 m3 m4 m5 m6 => by
  rw [List.mem_singleton.mp hp] at m2 m3 m5 m6 ⊢
  have eD : ρ3.1 1308 = ρ.1 1308 := (m4.1 1308 (by decide) (by decide)).1.trans (k4.1 1308 (by decide) (by decide)).1.symm
  obtain ⟨d0, d4⟩ := d_r hF.1
  have hB : ∀ j, ρ3.2.2.2.1 64353 j = ρ.2.2.2.1 64353 j := fun j => by
    have hw := m6 (64353, .arg 64353, []) (List.mem_cons_of_mem _ (List.mem_cons_self)) j
    have hw : Value.long (ρ3.2.2.2.1 64353 j) = Value.long (ρ.2.2.2.1 64353 j) := hw
    exact Value.long.inj hw
  obtain ⟨hAn, hAf⟩ := fiv_w (f := ρ.2.2.2.1 64321) (g := ρ3.2.2.2.1 64321) (m := 100) (d := (ρ.1 1308).toInt) (v0 := 0) (v1 := 0) (v2 := 0) (v3 := 0) (v4 := 0) (fun j => m6 (64321, .arg 64321, [(.int 104, .long 0), (.int 103, .long 0), (.int 102, .long 0), (.int 101, .long 0), (.int 100, .long 0)]) (List.mem_cons_self) j) (amw_100 d0 d4 (i := 0) (by decide)) (amw_100 d0 d4 (i := 1) (by decide)) (amw_100 d0 d4 (i := 2) (by decide)) (amw_100 d0 d4 (i := 3) (by decide)) (amw_100 d0 d4 (i := 4) (by decide))
  have h7 := k157.mp (hF.2 _ (List.mem_cons_of_mem _ (List.mem_cons_of_mem _ (List.mem_cons_of_mem _ (List.mem_cons_of_mem _ (List.mem_cons_self))))))
  have h5 := k155.mp (hF.2 _ (List.mem_cons_of_mem _ (List.mem_cons_of_mem _ (List.mem_cons_of_mem _ (List.mem_cons_of_mem _ (List.mem_cons_of_mem _ (List.mem_cons_self)))))))
  have eB : ρ3.2.2.2.1 64353 = ρ.2.2.2.1 64353 := funext hB
  have ev : ρ.2.1 60033 = ρ.2.2.2.1 64321 100 := of_decide_eq_true (hF.2 _ (List.mem_cons_of_mem _ (List.mem_cons_of_mem _ (List.mem_cons_of_mem _ (List.mem_cons_self)))))
  have hc : (100925505 : Int) = amcode (ρ.2.2.2.1 64321) 100 (ρ.2.1 60033).toInt.toNat := of_decide_eq_true (hF.2 _ (List.mem_cons_of_mem _ (List.mem_cons_of_mem _ (List.mem_cons_self))))
  rw [ev] at hc
  have x7 : sc X ρ3 (157, .add (.elem (.arg 64321) (.int 0)) (.add (.elem (.arg 64353) (.int 0)) (.arg 1308)), .int 7) = true := k157.mpr (by
    rw [eB, eD]
    exact amn_c (K := 6) (m := 100) (by decide) rfl h7 h5 (Or.inr ⟨by rw [← hc]; decide, fun j hj => by
    by_cases hi : 100 ≤ j ∧ j < 100 + 5
    · rw [if_pos hi]; exact hAf j hi.1 hi.2
    · rw [if_neg hi, hAn j hi]⟩))
  have x5 : sc X ρ3 (155, .elem (.arg 64353) (.int 0), .int 0) = true := k155.mpr (by rw [eB]; exact h5)
  have z1 : sc X ρ3 (6, .elem (.arg 64321) (.int 1), .long 0) = true := decide_eq_true (show ρ3.2.2.2.1 64321 1 = 0 by
    rw [hAn 1 (by decide)]
    exact of_decide_eq_true (hF.2 _ (List.mem_cons_of_mem _ (List.mem_cons_of_mem _ (List.mem_cons_of_mem _ (List.mem_cons_of_mem _ (List.mem_cons_of_mem _ (List.mem_cons_of_mem _ (List.mem_cons_self)))))))))
  have z2 : sc X ρ3 (6, .elem (.arg 64353) (.int 114), .long 0) = true := decide_eq_true (show ρ3.2.2.2.1 64353 114 = 0 by
    rw [hB]
    exact of_decide_eq_true (hF.2 _ (List.mem_cons_of_mem _ (List.mem_cons_of_mem _ (List.mem_cons_of_mem _ (List.mem_cons_of_mem _ (List.mem_cons_of_mem _ (List.mem_cons_of_mem _ (List.mem_cons_of_mem _ (List.mem_cons_self))))))))))
  have z3 : sc X ρ3 (6, .elem (.arg 64353) (.int 123), .long 0) = true := decide_eq_true (show ρ3.2.2.2.1 64353 123 = 0 by
    rw [hB]
    exact of_decide_eq_true (hF.2 _ (List.mem_cons_of_mem _ (List.mem_cons_of_mem _ (List.mem_cons_of_mem _ (List.mem_cons_of_mem _ (List.mem_cons_of_mem _ (List.mem_cons_of_mem _ (List.mem_cons_of_mem _ (List.mem_cons_of_mem _ (List.mem_cons_self)))))))))))
  exact t_mc7 hv ρ3 m1 ⟨m2.1, fcn (x7) (fcn (x5) (fcn (z1) (fcn (z2) (fcn (z3) (m2.2)))))⟩ m3 m4)))
noncomputable def q_mb6l : sCut := ((fr 0 95 19 [(0, tr 75), (1, .int 90), (2, .int 2), (3, .int 100)] [.arg 60033, .int 100, tr 42], [fr 0 93 73 [(0, tr 75)] [], fr 0 60 30 [(0, tr 39), (1, .int 1)] [], fBot], 11), (fr 0 297 64 [(0, tr 219), (1, .arg 1308)] [], [fr 0 300 36 [(0, tr 219), (1, .arg 1308)] [], fBot], 12), [zf98zzzb_76, zf98zzzb_77, ((139, .add (.elem (.arg 64321) (.int 0)) (.add (.int 100) (.arg 60033)), .int 100925506), true), zf98zzzb_78, zf98zzzb_79, zf98zzzb_12, zf98zzzb_13, zf98zzzb_14, zf98zzzb_15, ((0, .arg 2816, .int 1), true), zf98zzzb_0, zf98zzzb_1, zf98zzzb_2, zf98zzzb_3, zf98zzzb_4, ((0, .arg 1698, .int 0), true), ((0, .arg 1300, .int 0), true), ((0, .arg 1302, .int 0), true), ((0, .arg 1430, .int 0), true), ((0, .arg 1318, .int 0), true), ((0, .arg 3232, .int 0), true), ((0, .arg 2050, .int 0), true), ((0, .arg 3264, .int 0), true), ((0, .arg 3296, .int 0), true), ((0, .arg 3328, .int 0), true), ((0, .arg 3168, .int 0), true), ((0, .arg 1858, .int 0), true), ((0, .arg 1890, .int 0), true), ((0, .arg 1922, .int 0), true), ((0, .arg 3008, .int 0), true), ((0, .arg 1954, .int 0), true), ((0, .arg 1986, .int 0), true), ((0, .arg 2018, .int 0), true), zf98zzzb_5, ((0, .arg 1702, .int 0), true), ((0, .arg 3360, .int 0), true), ((0, .arg 1350, .int 0), true), ((0, .arg 1826, .int 0), true), zf98zzzb_6, zf98zzzb_7, zf98zzzb_8, zf98zzzb_9, ((0, .arg 1730, .int 0), true)], i_bz)
noncomputable def w_mb6l : List (sCut × List (Nat × sT) × List (Nat × sT × List (sT × sT))) := [(q_mc7T, [], [(64321, .arg 64321, [(.int 104, .long 0), (.int 103, .long 0), (.int 102, .long 0), (.int 101, .long 0), (.int 100, .long 0)]), (64353, .arg 64353, [])])]
theorem k_mb6l : cbody kR [(zWB, c_mcl)] (cpl1 zWB c_bn1 [q_mc7T]) (cpl2 zWB c_bn1 [q_mc7T]) (cleafB kR zWB c_bn1 w_mb6l) 700 false false q_mb6l.2.2.1 q_mb6l.2.2.2 (cst zWB c_bn1.2.2.1.1 q_mb6l.1) (cst zWB c_bn1.2.2.1.2 q_mb6l.2.1) = true := by decide +kernel
theorem t_mb6l {X : pX} {ρ0 : sR} (hv : vok X ρ0) : CUTOK X kR zWB c_bn1 13 ρ0 q_mb6l := CUTOK_AT (fun ρ k1 hF hI k4 => AT_of (q := q_mb6l) rfl rfl (SEM_runB kR_x kR_0 (Cs := [(zWB, c_mcl)]) (fun C hC => by rw [List.mem_singleton.mp hC]; exact s_mcl) c_bn1_f (Q := w_mb6l) hv 700 (b1 := false) (b2 := false) k_mb6l k1 hF hI k4 (fun p hp ρ3 m1 m2 m3 m4 m5 m6 => by
  rw [List.mem_singleton.mp hp] at m2 m3 m5 m6 ⊢
  have eD : ρ3.1 1308 = ρ.1 1308 := (m4.1 1308 (by decide) (by decide)).1.trans (k4.1 1308 (by decide) (by decide)).1.symm
  obtain ⟨d0, d4⟩ := d_r hF.1
  have hB : ∀ j, ρ3.2.2.2.1 64353 j = ρ.2.2.2.1 64353 j := fun j => by
    have hw := m6 (64353, .arg 64353, []) (List.mem_cons_of_mem _ (List.mem_cons_self)) j
    have hw : Value.long (ρ3.2.2.2.1 64353 j) = Value.long (ρ.2.2.2.1 64353 j) := hw
    exact Value.long.inj hw
  obtain ⟨hAn, hAf⟩ := fiv_w (f := ρ.2.2.2.1 64321) (g := ρ3.2.2.2.1 64321) (m := 100) (d := (ρ.1 1308).toInt) (v0 := 0) (v1 := 0) (v2 := 0) (v3 := 0) (v4 := 0) (fun j => m6 (64321, .arg 64321, [(.int 104, .long 0), (.int 103, .long 0), (.int 102, .long 0), (.int 101, .long 0), (.int 100, .long 0)]) (List.mem_cons_self) j) (amw_100 d0 d4 (i := 0) (by decide)) (amw_100 d0 d4 (i := 1) (by decide)) (amw_100 d0 d4 (i := 2) (by decide)) (amw_100 d0 d4 (i := 3) (by decide)) (amw_100 d0 d4 (i := 4) (by decide))
  have h7 := k157.mp (hF.2 _ (List.mem_cons_of_mem _ (List.mem_cons_of_mem _ (List.mem_cons_of_mem _ (List.mem_cons_of_mem _ (List.mem_cons_self))))))
  have h5 := k155.mp (hF.2 _ (List.mem_cons_of_mem _ (List.mem_cons_of_mem _ (List.mem_cons_of_mem _ (List.mem_cons_of_mem _ (List.mem_cons_of_mem _ (List.mem_cons_self)))))))
  have eB : ρ3.2.2.2.1 64353 = ρ.2.2.2.1 64353 := funext hB
  have ev : ρ.2.1 60033 = ρ.2.2.2.1 64321 100 := of_decide_eq_true (hF.2 _ (List.mem_cons_of_mem _ (List.mem_cons_of_mem _ (List.mem_cons_of_mem _ (List.mem_cons_self)))))
  have hc : (100925506 : Int) = amcode (ρ.2.2.2.1 64321) 100 (ρ.2.1 60033).toInt.toNat := of_decide_eq_true (hF.2 _ (List.mem_cons_of_mem _ (List.mem_cons_of_mem _ (List.mem_cons_self))))
  rw [ev] at hc
  have x7 : sc X ρ3 (157, .add (.elem (.arg 64321) (.int 0)) (.add (.elem (.arg 64353) (.int 0)) (.arg 1308)), .int 7) = true := k157.mpr (by
    rw [eB, eD]
    exact amn_c (K := 6) (m := 100) (by decide) rfl h7 h5 (Or.inr ⟨by rw [← hc]; decide, fun j hj => by
    by_cases hi : 100 ≤ j ∧ j < 100 + 5
    · rw [if_pos hi]; exact hAf j hi.1 hi.2
    · rw [if_neg hi, hAn j hi]⟩))
  have x5 : sc X ρ3 (155, .elem (.arg 64353) (.int 0), .int 0) = true := k155.mpr (by rw [eB]; exact h5)
  have z1 : sc X ρ3 (6, .elem (.arg 64321) (.int 1), .long 0) = true := decide_eq_true (show ρ3.2.2.2.1 64321 1 = 0 by
    rw [hAn 1 (by decide)]
    exact of_decide_eq_true (hF.2 _ (List.mem_cons_of_mem _ (List.mem_cons_of_mem _ (List.mem_cons_of_mem _ (List.mem_cons_of_mem _ (List.mem_cons_of_mem _ (List.mem_cons_of_mem _ (List.mem_cons_self)))))))))
  have z2 : sc X ρ3 (6, .elem (.arg 64353) (.int 114), .long 0) = true := decide_eq_true (show ρ3.2.2.2.1 64353 114 = 0 by
    rw [hB]
    exact of_decide_eq_true (hF.2 _ (List.mem_cons_of_mem _ (List.mem_cons_of_mem _ (List.mem_cons_of_mem _ (List.mem_cons_of_mem _ (List.mem_cons_of_mem _ (List.mem_cons_of_mem _ (List.mem_cons_of_mem _ (List.mem_cons_self))))))))))
  have z3 : sc X ρ3 (6, .elem (.arg 64353) (.int 123), .long 0) = true := decide_eq_true (show ρ3.2.2.2.1 64353 123 = 0 by
    rw [hB]
    exact of_decide_eq_true (hF.2 _ (List.mem_cons_of_mem _ (List.mem_cons_of_mem _ (List.mem_cons_of_mem _ (List.mem_cons_of_mem _ (List.mem_cons_of_mem _ (List.mem_cons_of_mem _ (List.mem_cons_of_mem _ (List.mem_cons_of_mem _ (List.mem_cons_self)))))))))))
  exact t_mc7 hv ρ3 m1 ⟨m2.1, fcn (x7) (fcn (x5) (fcn (z1) (fcn (z2) (fcn (z3) (m2.2)))))⟩ m3 m4)))
theorem t_mb6 {X : pX} {ρ0 : sR} (hv : vok X ρ0) : CUTOK X kR zWB c_bn1 13 ρ0 q_mb6 := fun ρ k1 hF hI k4 => by
  have h5 := k155.mp (hF.2 _ (List.mem_cons_of_mem _ (List.mem_cons_of_mem _ (List.mem_cons_self))))
  have h7 := (k157.mp (hF.2 _ (List.mem_cons_of_mem _ (List.mem_cons_self))) 100 (by decide)).resolve_left (by decide)
  have eA : (ρ.2.2.2.1 64321 100).toInt = (ρ.2.2.2.1 64353 100).toInt := h7.trans (amn_i (K := 6) (m := 100) (by decide) (by decide) rfl (by decide) (by decide))
  obtain ⟨v0, v4⟩ := ev_m4 (m := 100) (by decide) (h5 100 (by decide))
  rw [← eA] at v0 v4
  have ev : ρ.2.1 60033 = ρ.2.2.2.1 64321 100 := of_decide_eq_true (hF.2 _ (List.mem_cons_self))
  rw [← ev] at v0 v4
  rcases am_3 (g := ρ.2.2.2.1 64321) (m := 100) (n := (ρ.2.1 60033).toInt.toNat) with h | h | h
  · exact t_mb6o hv ρ k1 ⟨hF.1, fcn (dl_lf (x := ρ.2.1 60033) (y := 0) (show (0 : Int) ≤ _ from v0)) (fcn (dl_lf (x := 4) (y := ρ.2.1 60033) (show _ ≤ (4 : Int) from v4)) (fcn (decide_eq_true (show (0 : Int) = amcode (ρ.2.2.2.1 64321) 100 (ρ.2.1 60033).toInt.toNat from h.symm)) (hF.2)))⟩ hI k4
  · exact t_mb6n hv ρ k1 ⟨hF.1, fcn (dl_lf (x := ρ.2.1 60033) (y := 0) (show (0 : Int) ≤ _ from v0)) (fcn (dl_lf (x := 4) (y := ρ.2.1 60033) (show _ ≤ (4 : Int) from v4)) (fcn (decide_eq_true (show (100925505 : Int) = amcode (ρ.2.2.2.1 64321) 100 (ρ.2.1 60033).toInt.toNat from h.symm)) (hF.2)))⟩ hI k4
  · exact t_mb6l hv ρ k1 ⟨hF.1, fcn (dl_lf (x := ρ.2.1 60033) (y := 0) (show (0 : Int) ≤ _ from v0)) (fcn (dl_lf (x := 4) (y := ρ.2.1 60033) (show _ ≤ (4 : Int) from v4)) (fcn (decide_eq_true (show (100925506 : Int) = amcode (ρ.2.2.2.1 64321) 100 (ρ.2.1 60033).toInt.toNat from h.symm)) (hF.2)))⟩ hI k4
noncomputable def q_mc6 : sCut := ((fr 0 95 34 [(0, tr 75), (1, .int 90), (2, .int 1)] [], [fr 0 93 73 [(0, tr 75)] [], fr 0 60 30 [(0, tr 39), (1, .int 1)] [], fBot], 11), (fr 0 297 64 [(0, tr 219), (1, .arg 1308)] [], [fr 0 300 36 [(0, tr 219), (1, .arg 1308)] [], fBot], 12), [zf98zzzb_79, zf98zzzb_12, zf98zzzb_13, zf98zzzb_14, zf98zzzb_15, ((0, .arg 2816, .int 1), true), zf98zzzb_0, zf98zzzb_1, zf98zzzb_2, zf98zzzb_3, zf98zzzb_4, ((0, .arg 1698, .int 0), true), ((0, .arg 1300, .int 0), true), ((0, .arg 1302, .int 0), true), ((0, .arg 1430, .int 0), true), ((0, .arg 1318, .int 0), true), ((0, .arg 3232, .int 0), true), ((0, .arg 2050, .int 0), true), ((0, .arg 3264, .int 0), true), ((0, .arg 3296, .int 0), true), ((0, .arg 3328, .int 0), true), ((0, .arg 3168, .int 0), true), ((0, .arg 1858, .int 0), true), ((0, .arg 1890, .int 0), true), ((0, .arg 1922, .int 0), true), ((0, .arg 3008, .int 0), true), ((0, .arg 1954, .int 0), true), ((0, .arg 1986, .int 0), true), ((0, .arg 2018, .int 0), true), zf98zzzb_5, ((0, .arg 1702, .int 0), true), ((0, .arg 3360, .int 0), true), ((0, .arg 1350, .int 0), true), ((0, .arg 1826, .int 0), true), zf98zzzb_6, zf98zzzb_7, zf98zzzb_8, zf98zzzb_9, ((0, .arg 1730, .int 0), true)], i_bz)
theorem k_mc6 : cbody kR [] (cpl1 zWB c_bn1 [q_mb6]) (cpl2 zWB c_bn1 [q_mb6]) (cleaf kR zWB c_bn1 [q_mb6]) 60 true false q_mc6.2.2.1 q_mc6.2.2.2 (cst zWB c_bn1.2.2.1.1 q_mc6.1) (cst zWB c_bn1.2.2.1.2 q_mc6.2.1) = true := by decide +kernel
theorem t_mc6 {X : pX} {ρ0 : sR} (hv : vok X ρ0) : CUTOK X kR zWB c_bn1 13 ρ0 q_mc6 := CUT_run kR_x kR_0 (Cs := []) (fun C hC => by cases hC) c_bn1_f (Q := [q_mb6]) hv (fun q hq => by
    simp only [List.mem_cons, List.not_mem_nil, or_false] at hq
    rw [hq]; exact t_mb6 hv) 60 (b1 := true) (b2 := false) k_mc6
noncomputable def zf98zzzb_80 : sQ × Bool := ((6, .arg 60033, .elem (.arg 64321) (.int 95)), true)
noncomputable def zf98zzzb_81 : sQ × Bool := ((157, .add (.elem (.arg 64321) (.int 0)) (.add (.elem (.arg 64353) (.int 0)) (.arg 1308)), .int 5), true)
noncomputable def q_mb5 : sCut := ((fr 0 95 19 [(0, tr 75), (1, .int 90), (2, .int 1), (3, .int 95)] [.arg 60033, .int 95, tr 42], [fr 0 93 73 [(0, tr 75)] [], fr 0 60 30 [(0, tr 39), (1, .int 1)] [], fBot], 11), (fr 0 297 64 [(0, tr 219), (1, .arg 1308)] [], [fr 0 300 36 [(0, tr 219), (1, .arg 1308)] [], fBot], 12), [zf98zzzb_80, zf98zzzb_81, zf98zzzb_12, zf98zzzb_13, zf98zzzb_14, zf98zzzb_15, ((0, .arg 2816, .int 1), true), zf98zzzb_0, zf98zzzb_1, zf98zzzb_2, zf98zzzb_3, zf98zzzb_4, ((0, .arg 1698, .int 0), true), ((0, .arg 1300, .int 0), true), ((0, .arg 1302, .int 0), true), ((0, .arg 1430, .int 0), true), ((0, .arg 1318, .int 0), true), ((0, .arg 3232, .int 0), true), ((0, .arg 2050, .int 0), true), ((0, .arg 3264, .int 0), true), ((0, .arg 3296, .int 0), true), ((0, .arg 3328, .int 0), true), ((0, .arg 3168, .int 0), true), ((0, .arg 1858, .int 0), true), ((0, .arg 1890, .int 0), true), ((0, .arg 1922, .int 0), true), ((0, .arg 3008, .int 0), true), ((0, .arg 1954, .int 0), true), ((0, .arg 1986, .int 0), true), ((0, .arg 2018, .int 0), true), zf98zzzb_5, ((0, .arg 1702, .int 0), true), ((0, .arg 3360, .int 0), true), ((0, .arg 1350, .int 0), true), ((0, .arg 1826, .int 0), true), zf98zzzb_6, zf98zzzb_7, zf98zzzb_8, zf98zzzb_9, ((0, .arg 1730, .int 0), true)], i_bz)
noncomputable def q_mb5o : sCut := ((fr 0 95 19 [(0, tr 75), (1, .int 90), (2, .int 1), (3, .int 95)] [.arg 60033, .int 95, tr 42], [fr 0 93 73 [(0, tr 75)] [], fr 0 60 30 [(0, tr 39), (1, .int 1)] [], fBot], 11), (fr 0 297 64 [(0, tr 219), (1, .arg 1308)] [], [fr 0 300 36 [(0, tr 219), (1, .arg 1308)] [], fBot], 12), [zf98zzzb_76, zf98zzzb_77, ((139, .add (.elem (.arg 64321) (.int 0)) (.add (.int 95) (.arg 60033)), .int 0), true), zf98zzzb_80, zf98zzzb_81, zf98zzzb_12, zf98zzzb_13, zf98zzzb_14, zf98zzzb_15, ((0, .arg 2816, .int 1), true), zf98zzzb_0, zf98zzzb_1, zf98zzzb_2, zf98zzzb_3, zf98zzzb_4, ((0, .arg 1698, .int 0), true), ((0, .arg 1300, .int 0), true), ((0, .arg 1302, .int 0), true), ((0, .arg 1430, .int 0), true), ((0, .arg 1318, .int 0), true), ((0, .arg 3232, .int 0), true), ((0, .arg 2050, .int 0), true), ((0, .arg 3264, .int 0), true), ((0, .arg 3296, .int 0), true), ((0, .arg 3328, .int 0), true), ((0, .arg 3168, .int 0), true), ((0, .arg 1858, .int 0), true), ((0, .arg 1890, .int 0), true), ((0, .arg 1922, .int 0), true), ((0, .arg 3008, .int 0), true), ((0, .arg 1954, .int 0), true), ((0, .arg 1986, .int 0), true), ((0, .arg 2018, .int 0), true), zf98zzzb_5, ((0, .arg 1702, .int 0), true), ((0, .arg 3360, .int 0), true), ((0, .arg 1350, .int 0), true), ((0, .arg 1826, .int 0), true), zf98zzzb_6, zf98zzzb_7, zf98zzzb_8, zf98zzzb_9, ((0, .arg 1730, .int 0), true)], i_bz)
noncomputable def w_mb5o : List (sCut × List (Nat × sT) × List (Nat × sT × List (sT × sT))) := [(q_mc6T, [], [(64321, .arg 64321, []), (64353, .arg 64353, [])])]
theorem k_mb5o : cbody kR [(zWB, c_mco)] (cpl1 zWB c_bn1 [q_mc6T]) (cpl2 zWB c_bn1 [q_mc6T]) (cleafB kR zWB c_bn1 w_mb5o) 700 false false q_mb5o.2.2.1 q_mb5o.2.2.2 (cst zWB c_bn1.2.2.1.1 q_mb5o.1) (cst zWB c_bn1.2.2.1.2 q_mb5o.2.1) = true := by decide +kernel
theorem t_mb5o {X : pX} {ρ0 : sR} (hv : vok X ρ0) : CUTOK X kR zWB c_bn1 13 ρ0 q_mb5o := CUTOK_AT (fun ρ k1 hF hI k4 => AT_of (q := q_mb5o) rfl rfl (SEM_runB kR_x kR_0 (Cs := [(zWB, c_mco)]) (fun C hC => by rw [List.mem_singleton.mp hC]; exact s_mco) c_bn1_f (Q := w_mb5o) hv 700 (b1 := false) (b2 := false) k_mb5o k1 hF hI k4 (fun p hp ρ3 m1 m2 m3 m4 m5 m6 => by
  rw [List.mem_singleton.mp hp] at m2 m3 m5 m6 ⊢
  have eD : ρ3.1 1308 = ρ.1 1308 := (m4.1 1308 (by decide) (by decide)).1.trans (k4.1 1308 (by decide) (by decide)).1.symm
  obtain ⟨d0, d4⟩ := d_r hF.1
  have hB : ∀ j, ρ3.2.2.2.1 64353 j = ρ.2.2.2.1 64353 j := fun j => by
    have hw := m6 (64353, .arg 64353, []) (List.mem_cons_of_mem _ (List.mem_cons_self)) j
    have hw : Value.long (ρ3.2.2.2.1 64353 j) = Value.long (ρ.2.2.2.1 64353 j) := hw
    exact Value.long.inj hw
  have hA : ∀ j, ρ3.2.2.2.1 64321 j = ρ.2.2.2.1 64321 j := fun j => by
    have hw := m6 (64321, .arg 64321, []) (List.mem_cons_self) j
    have hw : Value.long (ρ3.2.2.2.1 64321 j) = Value.long (ρ.2.2.2.1 64321 j) := hw
    exact Value.long.inj hw
  have h7 := k157.mp (hF.2 _ (List.mem_cons_of_mem _ (List.mem_cons_of_mem _ (List.mem_cons_of_mem _ (List.mem_cons_of_mem _ (List.mem_cons_self))))))
  have h5 := k155.mp (hF.2 _ (List.mem_cons_of_mem _ (List.mem_cons_of_mem _ (List.mem_cons_of_mem _ (List.mem_cons_of_mem _ (List.mem_cons_of_mem _ (List.mem_cons_self)))))))
  have eB : ρ3.2.2.2.1 64353 = ρ.2.2.2.1 64353 := funext hB
  have ev : ρ.2.1 60033 = ρ.2.2.2.1 64321 95 := of_decide_eq_true (hF.2 _ (List.mem_cons_of_mem _ (List.mem_cons_of_mem _ (List.mem_cons_of_mem _ (List.mem_cons_self)))))
  have hc : (0 : Int) = amcode (ρ.2.2.2.1 64321) 95 (ρ.2.1 60033).toInt.toNat := of_decide_eq_true (hF.2 _ (List.mem_cons_of_mem _ (List.mem_cons_of_mem _ (List.mem_cons_self))))
  rw [ev] at hc
  have x7 : sc X ρ3 (157, .add (.elem (.arg 64321) (.int 0)) (.add (.elem (.arg 64353) (.int 0)) (.arg 1308)), .int 6) = true := k157.mpr (by
    rw [eB, eD]
    exact amn_c (K := 5) (m := 95) (by decide) rfl h7 h5 (Or.inl ⟨hc.symm, fun j _ => hA j⟩))
  have x5 : sc X ρ3 (155, .elem (.arg 64353) (.int 0), .int 0) = true := k155.mpr (by rw [eB]; exact h5)
  have z1 : sc X ρ3 (6, .elem (.arg 64321) (.int 1), .long 0) = true := decide_eq_true (show ρ3.2.2.2.1 64321 1 = 0 by
    rw [hA]
    exact of_decide_eq_true (hF.2 _ (List.mem_cons_of_mem _ (List.mem_cons_of_mem _ (List.mem_cons_of_mem _ (List.mem_cons_of_mem _ (List.mem_cons_of_mem _ (List.mem_cons_of_mem _ (List.mem_cons_self)))))))))
  have z2 : sc X ρ3 (6, .elem (.arg 64353) (.int 114), .long 0) = true := decide_eq_true (show ρ3.2.2.2.1 64353 114 = 0 by
    rw [hB]
    exact of_decide_eq_true (hF.2 _ (List.mem_cons_of_mem _ (List.mem_cons_of_mem _ (List.mem_cons_of_mem _ (List.mem_cons_of_mem _ (List.mem_cons_of_mem _ (List.mem_cons_of_mem _ (List.mem_cons_of_mem _ (List.mem_cons_self))))))))))
  have z3 : sc X ρ3 (6, .elem (.arg 64353) (.int 123), .long 0) = true := decide_eq_true (show ρ3.2.2.2.1 64353 123 = 0 by
    rw [hB]
    exact of_decide_eq_true (hF.2 _ (List.mem_cons_of_mem _ (List.mem_cons_of_mem _ (List.mem_cons_of_mem _ (List.mem_cons_of_mem _ (List.mem_cons_of_mem _ (List.mem_cons_of_mem _ (List.mem_cons_of_mem _ (List.mem_cons_of_mem _ (List.mem_cons_self)))))))))))
  exact t_mc6 hv ρ3 m1 ⟨m2.1, fcn (x7) (fcn (x5) (fcn (z1) (fcn (z2) (fcn (z3) (m2.2)))))⟩ m3 m4)))
noncomputable def q_mb5n : sCut := ((fr 0 95 19 [(0, tr 75), (1, .int 90), (2, .int 1), (3, .int 95)] [.arg 60033, .int 95, tr 42], [fr 0 93 73 [(0, tr 75)] [], fr 0 60 30 [(0, tr 39), (1, .int 1)] [], fBot], 11), (fr 0 297 64 [(0, tr 219), (1, .arg 1308)] [], [fr 0 300 36 [(0, tr 219), (1, .arg 1308)] [], fBot], 12), [zf98zzzb_76, zf98zzzb_77, ((139, .add (.elem (.arg 64321) (.int 0)) (.add (.int 95) (.arg 60033)), .int 100925505), true), zf98zzzb_80, zf98zzzb_81, zf98zzzb_12, zf98zzzb_13, zf98zzzb_14, zf98zzzb_15, ((0, .arg 2816, .int 1), true), zf98zzzb_0, zf98zzzb_1, zf98zzzb_2, zf98zzzb_3, zf98zzzb_4, ((0, .arg 1698, .int 0), true), ((0, .arg 1300, .int 0), true), ((0, .arg 1302, .int 0), true), ((0, .arg 1430, .int 0), true), ((0, .arg 1318, .int 0), true), ((0, .arg 3232, .int 0), true), ((0, .arg 2050, .int 0), true), ((0, .arg 3264, .int 0), true), ((0, .arg 3296, .int 0), true), ((0, .arg 3328, .int 0), true), ((0, .arg 3168, .int 0), true), ((0, .arg 1858, .int 0), true), ((0, .arg 1890, .int 0), true), ((0, .arg 1922, .int 0), true), ((0, .arg 3008, .int 0), true), ((0, .arg 1954, .int 0), true), ((0, .arg 1986, .int 0), true), ((0, .arg 2018, .int 0), true), zf98zzzb_5, ((0, .arg 1702, .int 0), true), ((0, .arg 3360, .int 0), true), ((0, .arg 1350, .int 0), true), ((0, .arg 1826, .int 0), true), zf98zzzb_6, zf98zzzb_7, zf98zzzb_8, zf98zzzb_9, ((0, .arg 1730, .int 0), true)], i_bz)
noncomputable def w_mb5n : List (sCut × List (Nat × sT) × List (Nat × sT × List (sT × sT))) := [(q_mc6T, [], [(64321, .arg 64321, [(.int 99, .long 0), (.int 98, .long 0), (.int 97, .long 0), (.int 96, .long 0), (.int 95, .long 0)]), (64353, .arg 64353, [])])]
theorem k_mb5n : cbody kR [(zWB, c_mcn)] (cpl1 zWB c_bn1 [q_mc6T]) (cpl2 zWB c_bn1 [q_mc6T]) (cleafB kR zWB c_bn1 w_mb5n) 700 false false q_mb5n.2.2.1 q_mb5n.2.2.2 (cst zWB c_bn1.2.2.1.1 q_mb5n.1) (cst zWB c_bn1.2.2.1.2 q_mb5n.2.1) = true := by decide +kernel
theorem t_mb5n {X : pX} {ρ0 : sR} (hv : vok X ρ0) : CUTOK X kR zWB c_bn1 13 ρ0 q_mb5n := CUTOK_AT (fun ρ k1 hF hI k4 => AT_of (q := q_mb5n) rfl rfl (SEM_runB kR_x kR_0 (Cs := [(zWB, c_mcn)]) (fun C hC => by rw [List.mem_singleton.mp hC]; exact s_mcn) c_bn1_f (Q := w_mb5n) hv 700 (b1 := false) (b2 := false) k_mb5n k1 hF hI k4 (fun p hp ρ3 m1 m2 m3 m4 m5 m6 => by
  rw [List.mem_singleton.mp hp] at m2 m3 m5 m6 ⊢
  have eD : ρ3.1 1308 = ρ.1 1308 := (m4.1 1308 (by decide) (by decide)).1.trans (k4.1 1308 (by decide) (by decide)).1.symm
  obtain ⟨d0, d4⟩ := d_r hF.1
  have hB : ∀ j, ρ3.2.2.2.1 64353 j = ρ.2.2.2.1 64353 j := fun j => by
    have hw := m6 (64353, .arg 64353, []) (List.mem_cons_of_mem _ (List.mem_cons_self)) j
    have hw : Value.long (ρ3.2.2.2.1 64353 j) = Value.long (ρ.2.2.2.1 64353 j) := hw
    exact Value.long.inj hw
  obtain ⟨hAn, hAf⟩ := fiv_w (f := ρ.2.2.2.1 64321) (g := ρ3.2.2.2.1 64321) (m := 95) (d := (ρ.1 1308).toInt) (v0 := 0) (v1 := 0) (v2 := 0) (v3 := 0) (v4 := 0) (fun j => m6 (64321, .arg 64321, [(.int 99, .long 0), (.int 98, .long 0), (.int 97, .long 0), (.int 96, .long 0), (.int 95, .long 0)]) (List.mem_cons_self) j) (amw_95 d0 d4 (i := 0) (by decide)) (amw_95 d0 d4 (i := 1) (by decide)) (amw_95 d0 d4 (i := 2) (by decide)) (amw_95 d0 d4 (i := 3) (by decide)) (amw_95 d0 d4 (i := 4) (by decide))
  have h7 := k157.mp (hF.2 _ (List.mem_cons_of_mem _ (List.mem_cons_of_mem _ (List.mem_cons_of_mem _ (List.mem_cons_of_mem _ (List.mem_cons_self))))))
  have h5 := k155.mp (hF.2 _ (List.mem_cons_of_mem _ (List.mem_cons_of_mem _ (List.mem_cons_of_mem _ (List.mem_cons_of_mem _ (List.mem_cons_of_mem _ (List.mem_cons_self)))))))
  have eB : ρ3.2.2.2.1 64353 = ρ.2.2.2.1 64353 := funext hB
  have ev : ρ.2.1 60033 = ρ.2.2.2.1 64321 95 := of_decide_eq_true (hF.2 _ (List.mem_cons_of_mem _ (List.mem_cons_of_mem _ (List.mem_cons_of_mem _ (List.mem_cons_self)))))
  have hc : (100925505 : Int) = amcode (ρ.2.2.2.1 64321) 95 (ρ.2.1 60033).toInt.toNat := of_decide_eq_true (hF.2 _ (List.mem_cons_of_mem _ (List.mem_cons_of_mem _ (List.mem_cons_self))))
  rw [ev] at hc
  have x7 : sc X ρ3 (157, .add (.elem (.arg 64321) (.int 0)) (.add (.elem (.arg 64353) (.int 0)) (.arg 1308)), .int 6) = true := k157.mpr (by
    rw [eB, eD]
    exact amn_c (K := 5) (m := 95) (by decide) rfl h7 h5 (Or.inr ⟨by rw [← hc]; decide, fun j hj => by
    by_cases hi : 95 ≤ j ∧ j < 95 + 5
    · rw [if_pos hi]; exact hAf j hi.1 hi.2
    · rw [if_neg hi, hAn j hi]⟩))
  have x5 : sc X ρ3 (155, .elem (.arg 64353) (.int 0), .int 0) = true := k155.mpr (by rw [eB]; exact h5)
  have z1 : sc X ρ3 (6, .elem (.arg 64321) (.int 1), .long 0) = true := decide_eq_true (show ρ3.2.2.2.1 64321 1 = 0 by
    rw [hAn 1 (by decide)]
    exact of_decide_eq_true (hF.2 _ (List.mem_cons_of_mem _ (List.mem_cons_of_mem _ (List.mem_cons_of_mem _ (List.mem_cons_of_mem _ (List.mem_cons_of_mem _ (List.mem_cons_of_mem _ (List.mem_cons_self)))))))))
  have z2 : sc X ρ3 (6, .elem (.arg 64353) (.int 114), .long 0) = true := decide_eq_true (show ρ3.2.2.2.1 64353 114 = 0 by
    rw [hB]
    exact of_decide_eq_true (hF.2 _ (List.mem_cons_of_mem _ (List.mem_cons_of_mem _ (List.mem_cons_of_mem _ (List.mem_cons_of_mem _ (List.mem_cons_of_mem _ (List.mem_cons_of_mem _ (List.mem_cons_of_mem _ (List.mem_cons_self))))))))))
  have z3 : sc X ρ3 (6, .elem (.arg 64353) (.int 123), .long 0) = true := decide_eq_true (show ρ3.2.2.2.1 64353 123 = 0 by
    rw [hB]
    exact of_decide_eq_true (hF.2 _ (List.mem_cons_of_mem _ (List.mem_cons_of_mem _ (List.mem_cons_of_mem _ (List.mem_cons_of_mem _ (List.mem_cons_of_mem _ (List.mem_cons_of_mem _ (List.mem_cons_of_mem _ (List.mem_cons_of_mem _ (List.mem_cons_self)))))))))))
  exact t_mc6 hv ρ3 m1 ⟨m2.1, fcn (x7) (fcn (x5) (fcn (z1) (fcn (z2) (fcn (z3) (m2.2)))))⟩ m3 m4)))
noncomputable def q_mb5l : sCut := ((fr 0 95 19 [(0, tr 75), (1, .int 90), (2, .int 1), (3, .int 95)] [.arg 60033, .int 95, tr 42], [fr 0 93 73 [(0, tr 75)] [], fr 0 60 30 [(0, tr 39), (1, .int 1)] [], fBot], 11), (fr 0 297 64 [(0, tr 219), (1, .arg 1308)] [], [fr 0 300 36 [(0, tr 219), (1, .arg 1308)] [], fBot], 12), [zf98zzzb_76, zf98zzzb_77, ((139, .add (.elem (.arg 64321) (.int 0)) (.add (.int 95) (.arg 60033)), .int 100925506), true), zf98zzzb_80, zf98zzzb_81, zf98zzzb_12, zf98zzzb_13, zf98zzzb_14, zf98zzzb_15, ((0, .arg 2816, .int 1), true), zf98zzzb_0, zf98zzzb_1, zf98zzzb_2, zf98zzzb_3, zf98zzzb_4, ((0, .arg 1698, .int 0), true), ((0, .arg 1300, .int 0), true), ((0, .arg 1302, .int 0), true), ((0, .arg 1430, .int 0), true), ((0, .arg 1318, .int 0), true), ((0, .arg 3232, .int 0), true), ((0, .arg 2050, .int 0), true), ((0, .arg 3264, .int 0), true), ((0, .arg 3296, .int 0), true), ((0, .arg 3328, .int 0), true), ((0, .arg 3168, .int 0), true), ((0, .arg 1858, .int 0), true), ((0, .arg 1890, .int 0), true), ((0, .arg 1922, .int 0), true), ((0, .arg 3008, .int 0), true), ((0, .arg 1954, .int 0), true), ((0, .arg 1986, .int 0), true), ((0, .arg 2018, .int 0), true), zf98zzzb_5, ((0, .arg 1702, .int 0), true), ((0, .arg 3360, .int 0), true), ((0, .arg 1350, .int 0), true), ((0, .arg 1826, .int 0), true), zf98zzzb_6, zf98zzzb_7, zf98zzzb_8, zf98zzzb_9, ((0, .arg 1730, .int 0), true)], i_bz)
noncomputable def w_mb5l : List (sCut × List (Nat × sT) × List (Nat × sT × List (sT × sT))) := [(q_mc6T, [], [(64321, .arg 64321, [(.int 99, .long 0), (.int 98, .long 0), (.int 97, .long 0), (.int 96, .long 0), (.int 95, .long 0)]), (64353, .arg 64353, [])])]
theorem k_mb5l : cbody kR [(zWB, c_mcl)] (cpl1 zWB c_bn1 [q_mc6T]) (cpl2 zWB c_bn1 [q_mc6T]) (cleafB kR zWB c_bn1 w_mb5l) 700 false false q_mb5l.2.2.1 q_mb5l.2.2.2 (cst zWB c_bn1.2.2.1.1 q_mb5l.1) (cst zWB c_bn1.2.2.1.2 q_mb5l.2.1) = true := by decide +kernel
theorem t_mb5l {X : pX} {ρ0 : sR} (hv : vok X ρ0) : CUTOK X kR zWB c_bn1 13 ρ0 q_mb5l := CUTOK_AT (fun ρ k1 hF hI k4 => AT_of (q := q_mb5l) rfl rfl (SEM_runB kR_x kR_0 (Cs := [(zWB, c_mcl)]) (fun C hC => by rw [List.mem_singleton.mp hC]; exact s_mcl) c_bn1_f (Q := w_mb5l) hv 700 (b1 := false) (b2 := false) k_mb5l k1 hF hI k4 (fun p hp ρ3 m1 m2 m3 m4 m5 m6 => by
  rw [List.mem_singleton.mp hp] at m2 m3 m5 m6 ⊢
  have eD : ρ3.1 1308 = ρ.1 1308 := (m4.1 1308 (by decide) (by decide)).1.trans (k4.1 1308 (by decide) (by decide)).1.symm
  obtain ⟨d0, d4⟩ := d_r hF.1
  have hB : ∀ j, ρ3.2.2.2.1 64353 j = ρ.2.2.2.1 64353 j := fun j => by
    have hw := m6 (64353, .arg 64353, []) (List.mem_cons_of_mem _ (List.mem_cons_self)) j
    have hw : Value.long (ρ3.2.2.2.1 64353 j) = Value.long (ρ.2.2.2.1 64353 j) := hw
    exact Value.long.inj hw
  obtain ⟨hAn, hAf⟩ := fiv_w (f := ρ.2.2.2.1 64321) (g := ρ3.2.2.2.1 64321) (m := 95) (d := (ρ.1 1308).toInt) (v0 := 0) (v1 := 0) (v2 := 0) (v3 := 0) (v4 := 0) (fun j => m6 (64321, .arg 64321, [(.int 99, .long 0), (.int 98, .long 0), (.int 97, .long 0), (.int 96, .long 0), (.int 95, .long 0)]) (List.mem_cons_self) j) (amw_95 d0 d4 (i := 0) (by decide)) (amw_95 d0 d4 (i := 1) (by decide)) (amw_95 d0 d4 (i := 2) (by decide)) (amw_95 d0 d4 (i := 3) (by decide)) (amw_95 d0 d4 (i := 4) (by decide))
  have h7 := k157.mp (hF.2 _ (List.mem_cons_of_mem _ (List.mem_cons_of_mem _ (List.mem_cons_of_mem _ (List.mem_cons_of_mem _ (List.mem_cons_self))))))
  have h5 := k155.mp (hF.2 _ (List.mem_cons_of_mem _ (List.mem_cons_of_mem _ (List.mem_cons_of_mem _ (List.mem_cons_of_mem _ (List.mem_cons_of_mem _ (List.mem_cons_self)))))))
  have eB : ρ3.2.2.2.1 64353 = ρ.2.2.2.1 64353 := funext hB
  have ev : ρ.2.1 60033 = ρ.2.2.2.1 64321 95 := of_decide_eq_true (hF.2 _ (List.mem_cons_of_mem _ (List.mem_cons_of_mem _ (List.mem_cons_of_mem _ (List.mem_cons_self)))))
  have hc : (100925506 : Int) = amcode (ρ.2.2.2.1 64321) 95 (ρ.2.1 60033).toInt.toNat := of_decide_eq_true (hF.2 _ (List.mem_cons_of_mem _ (List.mem_cons_of_mem _ (List.mem_cons_self))))
  rw [ev] at hc
  have x7 : sc X ρ3 (157, .add (.elem (.arg 64321) (.int 0)) (.add (.elem (.arg 64353) (.int 0)) (.arg 1308)), .int 6) = true := k157.mpr (by
    rw [eB, eD]
    exact amn_c (K := 5) (m := 95) (by decide) rfl h7 h5 (Or.inr ⟨by rw [← hc]; decide, fun j hj => by
    by_cases hi : 95 ≤ j ∧ j < 95 + 5
    · rw [if_pos hi]; exact hAf j hi.1 hi.2
    · rw [if_neg hi, hAn j hi]⟩))
  have x5 : sc X ρ3 (155, .elem (.arg 64353) (.int 0), .int 0) = true := k155.mpr (by rw [eB]; exact h5)
  have z1 : sc X ρ3 (6, .elem (.arg 64321) (.int 1), .long 0) = true := decide_eq_true (show ρ3.2.2.2.1 64321 1 = 0 by
    rw [hAn 1 (by decide)]
    exact of_decide_eq_true (hF.2 _ (List.mem_cons_of_mem _ (List.mem_cons_of_mem _ (List.mem_cons_of_mem _ (List.mem_cons_of_mem _ (List.mem_cons_of_mem _ (List.mem_cons_of_mem _ (List.mem_cons_self)))))))))
  have z2 : sc X ρ3 (6, .elem (.arg 64353) (.int 114), .long 0) = true := decide_eq_true (show ρ3.2.2.2.1 64353 114 = 0 by
    rw [hB]
    exact of_decide_eq_true (hF.2 _ (List.mem_cons_of_mem _ (List.mem_cons_of_mem _ (List.mem_cons_of_mem _ (List.mem_cons_of_mem _ (List.mem_cons_of_mem _ (List.mem_cons_of_mem _ (List.mem_cons_of_mem _ (List.mem_cons_self))))))))))
  have z3 : sc X ρ3 (6, .elem (.arg 64353) (.int 123), .long 0) = true := decide_eq_true (show ρ3.2.2.2.1 64353 123 = 0 by
    rw [hB]
    exact of_decide_eq_true (hF.2 _ (List.mem_cons_of_mem _ (List.mem_cons_of_mem _ (List.mem_cons_of_mem _ (List.mem_cons_of_mem _ (List.mem_cons_of_mem _ (List.mem_cons_of_mem _ (List.mem_cons_of_mem _ (List.mem_cons_of_mem _ (List.mem_cons_self)))))))))))
  exact t_mc6 hv ρ3 m1 ⟨m2.1, fcn (x7) (fcn (x5) (fcn (z1) (fcn (z2) (fcn (z3) (m2.2)))))⟩ m3 m4)))
theorem t_mb5 {X : pX} {ρ0 : sR} (hv : vok X ρ0) : CUTOK X kR zWB c_bn1 13 ρ0 q_mb5 := fun ρ k1 hF hI k4 => by
  have h5 := k155.mp (hF.2 _ (List.mem_cons_of_mem _ (List.mem_cons_of_mem _ (List.mem_cons_self))))
  have h7 := (k157.mp (hF.2 _ (List.mem_cons_of_mem _ (List.mem_cons_self))) 95 (by decide)).resolve_left (by decide)
  have eA : (ρ.2.2.2.1 64321 95).toInt = (ρ.2.2.2.1 64353 95).toInt := h7.trans (amn_i (K := 5) (m := 95) (by decide) (by decide) rfl (by decide) (by decide))
  obtain ⟨v0, v4⟩ := ev_m4 (m := 95) (by decide) (h5 95 (by decide))
  rw [← eA] at v0 v4
  have ev : ρ.2.1 60033 = ρ.2.2.2.1 64321 95 := of_decide_eq_true (hF.2 _ (List.mem_cons_self))
  rw [← ev] at v0 v4
  rcases am_3 (g := ρ.2.2.2.1 64321) (m := 95) (n := (ρ.2.1 60033).toInt.toNat) with h | h | h
  · exact t_mb5o hv ρ k1 ⟨hF.1, fcn (dl_lf (x := ρ.2.1 60033) (y := 0) (show (0 : Int) ≤ _ from v0)) (fcn (dl_lf (x := 4) (y := ρ.2.1 60033) (show _ ≤ (4 : Int) from v4)) (fcn (decide_eq_true (show (0 : Int) = amcode (ρ.2.2.2.1 64321) 95 (ρ.2.1 60033).toInt.toNat from h.symm)) (hF.2)))⟩ hI k4
  · exact t_mb5n hv ρ k1 ⟨hF.1, fcn (dl_lf (x := ρ.2.1 60033) (y := 0) (show (0 : Int) ≤ _ from v0)) (fcn (dl_lf (x := 4) (y := ρ.2.1 60033) (show _ ≤ (4 : Int) from v4)) (fcn (decide_eq_true (show (100925505 : Int) = amcode (ρ.2.2.2.1 64321) 95 (ρ.2.1 60033).toInt.toNat from h.symm)) (hF.2)))⟩ hI k4
  · exact t_mb5l hv ρ k1 ⟨hF.1, fcn (dl_lf (x := ρ.2.1 60033) (y := 0) (show (0 : Int) ≤ _ from v0)) (fcn (dl_lf (x := 4) (y := ρ.2.1 60033) (show _ ≤ (4 : Int) from v4)) (fcn (decide_eq_true (show (100925506 : Int) = amcode (ρ.2.2.2.1 64321) 95 (ρ.2.1 60033).toInt.toNat from h.symm)) (hF.2)))⟩ hI k4
noncomputable def q_mc5 : sCut := ((fr 0 95 34 [(0, tr 75), (1, .int 90), (2, .int 0)] [], [fr 0 93 73 [(0, tr 75)] [], fr 0 60 30 [(0, tr 39), (1, .int 1)] [], fBot], 11), (fr 0 297 64 [(0, tr 219), (1, .arg 1308)] [], [fr 0 300 36 [(0, tr 219), (1, .arg 1308)] [], fBot], 12), [zf98zzzb_81, zf98zzzb_12, zf98zzzb_13, zf98zzzb_14, zf98zzzb_15, ((0, .arg 2816, .int 1), true), zf98zzzb_0, zf98zzzb_1, zf98zzzb_2, zf98zzzb_3, zf98zzzb_4, ((0, .arg 1698, .int 0), true), ((0, .arg 1300, .int 0), true), ((0, .arg 1302, .int 0), true), ((0, .arg 1430, .int 0), true), ((0, .arg 1318, .int 0), true), ((0, .arg 3232, .int 0), true), ((0, .arg 2050, .int 0), true), ((0, .arg 3264, .int 0), true), ((0, .arg 3296, .int 0), true), ((0, .arg 3328, .int 0), true), ((0, .arg 3168, .int 0), true), ((0, .arg 1858, .int 0), true), ((0, .arg 1890, .int 0), true), ((0, .arg 1922, .int 0), true), ((0, .arg 3008, .int 0), true), ((0, .arg 1954, .int 0), true), ((0, .arg 1986, .int 0), true), ((0, .arg 2018, .int 0), true), zf98zzzb_5, ((0, .arg 1702, .int 0), true), ((0, .arg 3360, .int 0), true), ((0, .arg 1350, .int 0), true), ((0, .arg 1826, .int 0), true), zf98zzzb_6, zf98zzzb_7, zf98zzzb_8, zf98zzzb_9, ((0, .arg 1730, .int 0), true)], i_bz)
theorem k_mc5 : cbody kR [] (cpl1 zWB c_bn1 [q_mb5]) (cpl2 zWB c_bn1 [q_mb5]) (cleaf kR zWB c_bn1 [q_mb5]) 60 true false q_mc5.2.2.1 q_mc5.2.2.2 (cst zWB c_bn1.2.2.1.1 q_mc5.1) (cst zWB c_bn1.2.2.1.2 q_mc5.2.1) = true := by decide +kernel
theorem t_mc5 {X : pX} {ρ0 : sR} (hv : vok X ρ0) : CUTOK X kR zWB c_bn1 13 ρ0 q_mc5 := CUT_run kR_x kR_0 (Cs := []) (fun C hC => by cases hC) c_bn1_f (Q := [q_mb5]) hv (fun q hq => by
    simp only [List.mem_cons, List.not_mem_nil, or_false] at hq
    rw [hq]; exact t_mb5 hv) 60 (b1 := true) (b2 := false) k_mc5
noncomputable def zf98zzzb_82 : sQ × Bool := ((6, .arg 60033, .elem (.arg 64321) (.int 90)), true)
noncomputable def zf98zzzb_83 : sQ × Bool := ((157, .add (.elem (.arg 64321) (.int 0)) (.add (.elem (.arg 64353) (.int 0)) (.arg 1308)), .int 4), true)
noncomputable def q_mb4 : sCut := ((fr 0 95 19 [(0, tr 75), (1, .int 90), (2, .int 0), (3, .int 90)] [.arg 60033, .int 90, tr 42], [fr 0 93 73 [(0, tr 75)] [], fr 0 60 30 [(0, tr 39), (1, .int 1)] [], fBot], 11), (fr 0 297 64 [(0, tr 219), (1, .arg 1308)] [], [fr 0 300 36 [(0, tr 219), (1, .arg 1308)] [], fBot], 12), [zf98zzzb_82, zf98zzzb_83, zf98zzzb_12, zf98zzzb_13, zf98zzzb_14, zf98zzzb_15, ((0, .arg 2816, .int 1), true), zf98zzzb_0, zf98zzzb_1, zf98zzzb_2, zf98zzzb_3, zf98zzzb_4, ((0, .arg 1698, .int 0), true), ((0, .arg 1300, .int 0), true), ((0, .arg 1302, .int 0), true), ((0, .arg 1430, .int 0), true), ((0, .arg 1318, .int 0), true), ((0, .arg 3232, .int 0), true), ((0, .arg 2050, .int 0), true), ((0, .arg 3264, .int 0), true), ((0, .arg 3296, .int 0), true), ((0, .arg 3328, .int 0), true), ((0, .arg 3168, .int 0), true), ((0, .arg 1858, .int 0), true), ((0, .arg 1890, .int 0), true), ((0, .arg 1922, .int 0), true), ((0, .arg 3008, .int 0), true), ((0, .arg 1954, .int 0), true), ((0, .arg 1986, .int 0), true), ((0, .arg 2018, .int 0), true), zf98zzzb_5, ((0, .arg 1702, .int 0), true), ((0, .arg 3360, .int 0), true), ((0, .arg 1350, .int 0), true), ((0, .arg 1826, .int 0), true), zf98zzzb_6, zf98zzzb_7, zf98zzzb_8, zf98zzzb_9, ((0, .arg 1730, .int 0), true)], i_bz)
noncomputable def q_mb4o : sCut := ((fr 0 95 19 [(0, tr 75), (1, .int 90), (2, .int 0), (3, .int 90)] [.arg 60033, .int 90, tr 42], [fr 0 93 73 [(0, tr 75)] [], fr 0 60 30 [(0, tr 39), (1, .int 1)] [], fBot], 11), (fr 0 297 64 [(0, tr 219), (1, .arg 1308)] [], [fr 0 300 36 [(0, tr 219), (1, .arg 1308)] [], fBot], 12), [zf98zzzb_76, zf98zzzb_77, ((139, .add (.elem (.arg 64321) (.int 0)) (.add (.int 90) (.arg 60033)), .int 0), true), zf98zzzb_82, zf98zzzb_83, zf98zzzb_12, zf98zzzb_13, zf98zzzb_14, zf98zzzb_15, ((0, .arg 2816, .int 1), true), zf98zzzb_0, zf98zzzb_1, zf98zzzb_2, zf98zzzb_3, zf98zzzb_4, ((0, .arg 1698, .int 0), true), ((0, .arg 1300, .int 0), true), ((0, .arg 1302, .int 0), true), ((0, .arg 1430, .int 0), true), ((0, .arg 1318, .int 0), true), ((0, .arg 3232, .int 0), true), ((0, .arg 2050, .int 0), true), ((0, .arg 3264, .int 0), true), ((0, .arg 3296, .int 0), true), ((0, .arg 3328, .int 0), true), ((0, .arg 3168, .int 0), true), ((0, .arg 1858, .int 0), true), ((0, .arg 1890, .int 0), true), ((0, .arg 1922, .int 0), true), ((0, .arg 3008, .int 0), true), ((0, .arg 1954, .int 0), true), ((0, .arg 1986, .int 0), true), ((0, .arg 2018, .int 0), true), zf98zzzb_5, ((0, .arg 1702, .int 0), true), ((0, .arg 3360, .int 0), true), ((0, .arg 1350, .int 0), true), ((0, .arg 1826, .int 0), true), zf98zzzb_6, zf98zzzb_7, zf98zzzb_8, zf98zzzb_9, ((0, .arg 1730, .int 0), true)], i_bz)
noncomputable def w_mb4o : List (sCut × List (Nat × sT) × List (Nat × sT × List (sT × sT))) := [(q_mc5T, [], [(64321, .arg 64321, []), (64353, .arg 64353, [])])]
theorem k_mb4o : cbody kR [(zWB, c_mco)] (cpl1 zWB c_bn1 [q_mc5T]) (cpl2 zWB c_bn1 [q_mc5T]) (cleafB kR zWB c_bn1 w_mb4o) 700 false false q_mb4o.2.2.1 q_mb4o.2.2.2 (cst zWB c_bn1.2.2.1.1 q_mb4o.1) (cst zWB c_bn1.2.2.1.2 q_mb4o.2.1) = true := by decide +kernel
theorem t_mb4o {X : pX} {ρ0 : sR} (hv : vok X ρ0) : CUTOK X kR zWB c_bn1 13 ρ0 q_mb4o := CUTOK_AT (fun ρ k1 hF hI k4 => AT_of (q := q_mb4o) rfl rfl (SEM_runB kR_x kR_0 (Cs := [(zWB, c_mco)]) (fun C hC => by rw [List.mem_singleton.mp hC]; exact s_mco) c_bn1_f (Q := w_mb4o) hv 700 (b1 := false) (b2 := false) k_mb4o k1 hF hI k4 (fun p hp ρ3 m1 m2 m3 m4 m5 m6 => by
  rw [List.mem_singleton.mp hp] at m2 m3 m5 m6 ⊢
  have eD : ρ3.1 1308 = ρ.1 1308 := (m4.1 1308 (by decide) (by decide)).1.trans (k4.1 1308 (by decide) (by decide)).1.symm
  obtain ⟨d0, d4⟩ := d_r hF.1
  have hB : ∀ j, ρ3.2.2.2.1 64353 j = ρ.2.2.2.1 64353 j := fun j => by
    have hw := m6 (64353, .arg 64353, []) (List.mem_cons_of_mem _ (List.mem_cons_self)) j
    have hw : Value.long (ρ3.2.2.2.1 64353 j) = Value.long (ρ.2.2.2.1 64353 j) := hw
    exact Value.long.inj hw
  have hA : ∀ j, ρ3.2.2.2.1 64321 j = ρ.2.2.2.1 64321 j := fun j => by
    have hw := m6 (64321, .arg 64321, []) (List.mem_cons_self) j
    have hw : Value.long (ρ3.2.2.2.1 64321 j) = Value.long (ρ.2.2.2.1 64321 j) := hw
    exact Value.long.inj hw
  have h7 := k157.mp (hF.2 _ (List.mem_cons_of_mem _ (List.mem_cons_of_mem _ (List.mem_cons_of_mem _ (List.mem_cons_of_mem _ (List.mem_cons_self))))))
  have h5 := k155.mp (hF.2 _ (List.mem_cons_of_mem _ (List.mem_cons_of_mem _ (List.mem_cons_of_mem _ (List.mem_cons_of_mem _ (List.mem_cons_of_mem _ (List.mem_cons_self)))))))
  have eB : ρ3.2.2.2.1 64353 = ρ.2.2.2.1 64353 := funext hB
  have ev : ρ.2.1 60033 = ρ.2.2.2.1 64321 90 := of_decide_eq_true (hF.2 _ (List.mem_cons_of_mem _ (List.mem_cons_of_mem _ (List.mem_cons_of_mem _ (List.mem_cons_self)))))
  have hc : (0 : Int) = amcode (ρ.2.2.2.1 64321) 90 (ρ.2.1 60033).toInt.toNat := of_decide_eq_true (hF.2 _ (List.mem_cons_of_mem _ (List.mem_cons_of_mem _ (List.mem_cons_self))))
  rw [ev] at hc
  have x7 : sc X ρ3 (157, .add (.elem (.arg 64321) (.int 0)) (.add (.elem (.arg 64353) (.int 0)) (.arg 1308)), .int 5) = true := k157.mpr (by
    rw [eB, eD]
    exact amn_c (K := 4) (m := 90) (by decide) rfl h7 h5 (Or.inl ⟨hc.symm, fun j _ => hA j⟩))
  have x5 : sc X ρ3 (155, .elem (.arg 64353) (.int 0), .int 0) = true := k155.mpr (by rw [eB]; exact h5)
  have z1 : sc X ρ3 (6, .elem (.arg 64321) (.int 1), .long 0) = true := decide_eq_true (show ρ3.2.2.2.1 64321 1 = 0 by
    rw [hA]
    exact of_decide_eq_true (hF.2 _ (List.mem_cons_of_mem _ (List.mem_cons_of_mem _ (List.mem_cons_of_mem _ (List.mem_cons_of_mem _ (List.mem_cons_of_mem _ (List.mem_cons_of_mem _ (List.mem_cons_self)))))))))
  have z2 : sc X ρ3 (6, .elem (.arg 64353) (.int 114), .long 0) = true := decide_eq_true (show ρ3.2.2.2.1 64353 114 = 0 by
    rw [hB]
    exact of_decide_eq_true (hF.2 _ (List.mem_cons_of_mem _ (List.mem_cons_of_mem _ (List.mem_cons_of_mem _ (List.mem_cons_of_mem _ (List.mem_cons_of_mem _ (List.mem_cons_of_mem _ (List.mem_cons_of_mem _ (List.mem_cons_self))))))))))
  have z3 : sc X ρ3 (6, .elem (.arg 64353) (.int 123), .long 0) = true := decide_eq_true (show ρ3.2.2.2.1 64353 123 = 0 by
    rw [hB]
    exact of_decide_eq_true (hF.2 _ (List.mem_cons_of_mem _ (List.mem_cons_of_mem _ (List.mem_cons_of_mem _ (List.mem_cons_of_mem _ (List.mem_cons_of_mem _ (List.mem_cons_of_mem _ (List.mem_cons_of_mem _ (List.mem_cons_of_mem _ (List.mem_cons_self)))))))))))
  exact t_mc5 hv ρ3 m1 ⟨m2.1, fcn (x7) (fcn (x5) (fcn (z1) (fcn (z2) (fcn (z3) (m2.2)))))⟩ m3 m4)))
noncomputable def q_mb4n : sCut := ((fr 0 95 19 [(0, tr 75), (1, .int 90), (2, .int 0), (3, .int 90)] [.arg 60033, .int 90, tr 42], [fr 0 93 73 [(0, tr 75)] [], fr 0 60 30 [(0, tr 39), (1, .int 1)] [], fBot], 11), (fr 0 297 64 [(0, tr 219), (1, .arg 1308)] [], [fr 0 300 36 [(0, tr 219), (1, .arg 1308)] [], fBot], 12), [zf98zzzb_76, zf98zzzb_77, ((139, .add (.elem (.arg 64321) (.int 0)) (.add (.int 90) (.arg 60033)), .int 100925505), true), zf98zzzb_82, zf98zzzb_83, zf98zzzb_12, zf98zzzb_13, zf98zzzb_14, zf98zzzb_15, ((0, .arg 2816, .int 1), true), zf98zzzb_0, zf98zzzb_1, zf98zzzb_2, zf98zzzb_3, zf98zzzb_4, ((0, .arg 1698, .int 0), true), ((0, .arg 1300, .int 0), true), ((0, .arg 1302, .int 0), true), ((0, .arg 1430, .int 0), true), ((0, .arg 1318, .int 0), true), ((0, .arg 3232, .int 0), true), ((0, .arg 2050, .int 0), true), ((0, .arg 3264, .int 0), true), ((0, .arg 3296, .int 0), true), ((0, .arg 3328, .int 0), true), ((0, .arg 3168, .int 0), true), ((0, .arg 1858, .int 0), true), ((0, .arg 1890, .int 0), true), ((0, .arg 1922, .int 0), true), ((0, .arg 3008, .int 0), true), ((0, .arg 1954, .int 0), true), ((0, .arg 1986, .int 0), true), ((0, .arg 2018, .int 0), true), zf98zzzb_5, ((0, .arg 1702, .int 0), true), ((0, .arg 3360, .int 0), true), ((0, .arg 1350, .int 0), true), ((0, .arg 1826, .int 0), true), zf98zzzb_6, zf98zzzb_7, zf98zzzb_8, zf98zzzb_9, ((0, .arg 1730, .int 0), true)], i_bz)
noncomputable def w_mb4n : List (sCut × List (Nat × sT) × List (Nat × sT × List (sT × sT))) := [(q_mc5T, [], [(64321, .arg 64321, [(.int 94, .long 0), (.int 93, .long 0), (.int 92, .long 0), (.int 91, .long 1614872592), (.int 90, .long 1)]), (64353, .arg 64353, [])])]
theorem k_mb4n : cbody kR [(zWB, c_mcn)] (cpl1 zWB c_bn1 [q_mc5T]) (cpl2 zWB c_bn1 [q_mc5T]) (cleafB kR zWB c_bn1 w_mb4n) 700 false false q_mb4n.2.2.1 q_mb4n.2.2.2 (cst zWB c_bn1.2.2.1.1 q_mb4n.1) (cst zWB c_bn1.2.2.1.2 q_mb4n.2.1) = true := by decide +kernel
theorem t_mb4n {X : pX} {ρ0 : sR} (hv : vok X ρ0) : CUTOK X kR zWB c_bn1 13 ρ0 q_mb4n := CUTOK_AT (fun ρ k1 hF hI k4 => AT_of (q := q_mb4n) rfl rfl (SEM_runB kR_x kR_0 (Cs := [(zWB, c_mcn)]) (fun C hC => by rw [List.mem_singleton.mp hC]; exact s_mcn) c_bn1_f (Q := w_mb4n) hv 700 (b1 := false) (b2 := false) k_mb4n k1 hF hI k4 (fun p hp ρ3 m1 m2 m3 m4 m5 m6 => by
  rw [List.mem_singleton.mp hp] at m2 m3 m5 m6 ⊢
  have eD : ρ3.1 1308 = ρ.1 1308 := (m4.1 1308 (by decide) (by decide)).1.trans (k4.1 1308 (by decide) (by decide)).1.symm
  obtain ⟨d0, d4⟩ := d_r hF.1
  have hB : ∀ j, ρ3.2.2.2.1 64353 j = ρ.2.2.2.1 64353 j := fun j => by
    have hw := m6 (64353, .arg 64353, []) (List.mem_cons_of_mem _ (List.mem_cons_self)) j
    have hw : Value.long (ρ3.2.2.2.1 64353 j) = Value.long (ρ.2.2.2.1 64353 j) := hw
    exact Value.long.inj hw
  obtain ⟨hAn, hAf⟩ := fiv_w (f := ρ.2.2.2.1 64321) (g := ρ3.2.2.2.1 64321) (m := 90) (d := (ρ.1 1308).toInt) (v0 := 1) (v1 := 1614872592) (v2 := 0) (v3 := 0) (v4 := 0) (fun j => m6 (64321, .arg 64321, [(.int 94, .long 0), (.int 93, .long 0), (.int 92, .long 0), (.int 91, .long 1614872592), (.int 90, .long 1)]) (List.mem_cons_self) j) (amw_90 d0 d4 (i := 0) (by decide)) (amw_90 d0 d4 (i := 1) (by decide)) (amw_90 d0 d4 (i := 2) (by decide)) (amw_90 d0 d4 (i := 3) (by decide)) (amw_90 d0 d4 (i := 4) (by decide))
  have h7 := k157.mp (hF.2 _ (List.mem_cons_of_mem _ (List.mem_cons_of_mem _ (List.mem_cons_of_mem _ (List.mem_cons_of_mem _ (List.mem_cons_self))))))
  have h5 := k155.mp (hF.2 _ (List.mem_cons_of_mem _ (List.mem_cons_of_mem _ (List.mem_cons_of_mem _ (List.mem_cons_of_mem _ (List.mem_cons_of_mem _ (List.mem_cons_self)))))))
  have eB : ρ3.2.2.2.1 64353 = ρ.2.2.2.1 64353 := funext hB
  have ev : ρ.2.1 60033 = ρ.2.2.2.1 64321 90 := of_decide_eq_true (hF.2 _ (List.mem_cons_of_mem _ (List.mem_cons_of_mem _ (List.mem_cons_of_mem _ (List.mem_cons_self)))))
  have hc : (100925505 : Int) = amcode (ρ.2.2.2.1 64321) 90 (ρ.2.1 60033).toInt.toNat := of_decide_eq_true (hF.2 _ (List.mem_cons_of_mem _ (List.mem_cons_of_mem _ (List.mem_cons_self))))
  rw [ev] at hc
  have x7 : sc X ρ3 (157, .add (.elem (.arg 64321) (.int 0)) (.add (.elem (.arg 64353) (.int 0)) (.arg 1308)), .int 5) = true := k157.mpr (by
    rw [eB, eD]
    exact amn_c (K := 4) (m := 90) (by decide) rfl h7 h5 (Or.inr ⟨by rw [← hc]; decide, fun j hj => by
    by_cases hi : 90 ≤ j ∧ j < 90 + 5
    · rw [if_pos hi]; exact hAf j hi.1 hi.2
    · rw [if_neg hi, hAn j hi]⟩))
  have x5 : sc X ρ3 (155, .elem (.arg 64353) (.int 0), .int 0) = true := k155.mpr (by rw [eB]; exact h5)
  have z1 : sc X ρ3 (6, .elem (.arg 64321) (.int 1), .long 0) = true := decide_eq_true (show ρ3.2.2.2.1 64321 1 = 0 by
    rw [hAn 1 (by decide)]
    exact of_decide_eq_true (hF.2 _ (List.mem_cons_of_mem _ (List.mem_cons_of_mem _ (List.mem_cons_of_mem _ (List.mem_cons_of_mem _ (List.mem_cons_of_mem _ (List.mem_cons_of_mem _ (List.mem_cons_self)))))))))
  have z2 : sc X ρ3 (6, .elem (.arg 64353) (.int 114), .long 0) = true := decide_eq_true (show ρ3.2.2.2.1 64353 114 = 0 by
    rw [hB]
    exact of_decide_eq_true (hF.2 _ (List.mem_cons_of_mem _ (List.mem_cons_of_mem _ (List.mem_cons_of_mem _ (List.mem_cons_of_mem _ (List.mem_cons_of_mem _ (List.mem_cons_of_mem _ (List.mem_cons_of_mem _ (List.mem_cons_self))))))))))
  have z3 : sc X ρ3 (6, .elem (.arg 64353) (.int 123), .long 0) = true := decide_eq_true (show ρ3.2.2.2.1 64353 123 = 0 by
    rw [hB]
    exact of_decide_eq_true (hF.2 _ (List.mem_cons_of_mem _ (List.mem_cons_of_mem _ (List.mem_cons_of_mem _ (List.mem_cons_of_mem _ (List.mem_cons_of_mem _ (List.mem_cons_of_mem _ (List.mem_cons_of_mem _ (List.mem_cons_of_mem _ (List.mem_cons_self)))))))))))
  exact t_mc5 hv ρ3 m1 ⟨m2.1, fcn (x7) (fcn (x5) (fcn (z1) (fcn (z2) (fcn (z3) (m2.2)))))⟩ m3 m4)))
noncomputable def q_mb4l : sCut := ((fr 0 95 19 [(0, tr 75), (1, .int 90), (2, .int 0), (3, .int 90)] [.arg 60033, .int 90, tr 42], [fr 0 93 73 [(0, tr 75)] [], fr 0 60 30 [(0, tr 39), (1, .int 1)] [], fBot], 11), (fr 0 297 64 [(0, tr 219), (1, .arg 1308)] [], [fr 0 300 36 [(0, tr 219), (1, .arg 1308)] [], fBot], 12), [zf98zzzb_76, zf98zzzb_77, ((139, .add (.elem (.arg 64321) (.int 0)) (.add (.int 90) (.arg 60033)), .int 100925506), true), zf98zzzb_82, zf98zzzb_83, zf98zzzb_12, zf98zzzb_13, zf98zzzb_14, zf98zzzb_15, ((0, .arg 2816, .int 1), true), zf98zzzb_0, zf98zzzb_1, zf98zzzb_2, zf98zzzb_3, zf98zzzb_4, ((0, .arg 1698, .int 0), true), ((0, .arg 1300, .int 0), true), ((0, .arg 1302, .int 0), true), ((0, .arg 1430, .int 0), true), ((0, .arg 1318, .int 0), true), ((0, .arg 3232, .int 0), true), ((0, .arg 2050, .int 0), true), ((0, .arg 3264, .int 0), true), ((0, .arg 3296, .int 0), true), ((0, .arg 3328, .int 0), true), ((0, .arg 3168, .int 0), true), ((0, .arg 1858, .int 0), true), ((0, .arg 1890, .int 0), true), ((0, .arg 1922, .int 0), true), ((0, .arg 3008, .int 0), true), ((0, .arg 1954, .int 0), true), ((0, .arg 1986, .int 0), true), ((0, .arg 2018, .int 0), true), zf98zzzb_5, ((0, .arg 1702, .int 0), true), ((0, .arg 3360, .int 0), true), ((0, .arg 1350, .int 0), true), ((0, .arg 1826, .int 0), true), zf98zzzb_6, zf98zzzb_7, zf98zzzb_8, zf98zzzb_9, ((0, .arg 1730, .int 0), true)], i_bz)
noncomputable def w_mb4l : List (sCut × List (Nat × sT) × List (Nat × sT × List (sT × sT))) := [(q_mc5T, [], [(64321, .arg 64321, [(.int 94, .long 0), (.int 93, .long 0), (.int 92, .long 0), (.int 91, .long 1614872592), (.int 90, .long 1)]), (64353, .arg 64353, [])])]
theorem k_mb4l : cbody kR [(zWB, c_mcl)] (cpl1 zWB c_bn1 [q_mc5T]) (cpl2 zWB c_bn1 [q_mc5T]) (cleafB kR zWB c_bn1 w_mb4l) 700 false false q_mb4l.2.2.1 q_mb4l.2.2.2 (cst zWB c_bn1.2.2.1.1 q_mb4l.1) (cst zWB c_bn1.2.2.1.2 q_mb4l.2.1) = true := by decide +kernel
theorem t_mb4l {X : pX} {ρ0 : sR} (hv : vok X ρ0) : CUTOK X kR zWB c_bn1 13 ρ0 q_mb4l := CUTOK_AT (fun ρ k1 hF hI k4 => AT_of (q := q_mb4l) rfl rfl (SEM_runB kR_x kR_0 (Cs := [(zWB, c_mcl)]) (fun C hC => by rw [List.mem_singleton.mp hC]; exact s_mcl) c_bn1_f (Q := w_mb4l) hv 700 (b1 := false) (b2 := false) k_mb4l k1 hF hI k4 (fun p hp ρ3 m1 m2 m3 m4 m5 m6 => by
  rw [List.mem_singleton.mp hp] at m2 m3 m5 m6 ⊢
  have eD : ρ3.1 1308 = ρ.1 1308 := (m4.1 1308 (by decide) (by decide)).1.trans (k4.1 1308 (by decide) (by decide)).1.symm
  obtain ⟨d0, d4⟩ := d_r hF.1
  have hB : ∀ j, ρ3.2.2.2.1 64353 j = ρ.2.2.2.1 64353 j := fun j => by
    have hw := m6 (64353, .arg 64353, []) (List.mem_cons_of_mem _ (List.mem_cons_self)) j
    have hw : Value.long (ρ3.2.2.2.1 64353 j) = Value.long (ρ.2.2.2.1 64353 j) := hw
    exact Value.long.inj hw
  obtain ⟨hAn, hAf⟩ := fiv_w (f := ρ.2.2.2.1 64321) (g := ρ3.2.2.2.1 64321) (m := 90) (d := (ρ.1 1308).toInt) (v0 := 1) (v1 := 1614872592) (v2 := 0) (v3 := 0) (v4 := 0) (fun j => m6 (64321, .arg 64321, [(.int 94, .long 0), (.int 93, .long 0), (.int 92, .long 0), (.int 91, .long 1614872592), (.int 90, .long 1)]) (List.mem_cons_self) j) (amw_90 d0 d4 (i := 0) (by decide)) (amw_90 d0 d4 (i := 1) (by decide)) (amw_90 d0 d4 (i := 2) (by decide)) (amw_90 d0 d4 (i := 3) (by decide)) (amw_90 d0 d4 (i := 4) (by decide))
  have h7 := k157.mp (hF.2 _ (List.mem_cons_of_mem _ (List.mem_cons_of_mem _ (List.mem_cons_of_mem _ (List.mem_cons_of_mem _ (List.mem_cons_self))))))
  have h5 := k155.mp (hF.2 _ (List.mem_cons_of_mem _ (List.mem_cons_of_mem _ (List.mem_cons_of_mem _ (List.mem_cons_of_mem _ (List.mem_cons_of_mem _ (List.mem_cons_self)))))))
  have eB : ρ3.2.2.2.1 64353 = ρ.2.2.2.1 64353 := funext hB
  have ev : ρ.2.1 60033 = ρ.2.2.2.1 64321 90 := of_decide_eq_true (hF.2 _ (List.mem_cons_of_mem _ (List.mem_cons_of_mem _ (List.mem_cons_of_mem _ (List.mem_cons_self)))))
  have hc : (100925506 : Int) = amcode (ρ.2.2.2.1 64321) 90 (ρ.2.1 60033).toInt.toNat := of_decide_eq_true (hF.2 _ (List.mem_cons_of_mem _ (List.mem_cons_of_mem _ (List.mem_cons_self))))
  rw [ev] at hc
  have x7 : sc X ρ3 (157, .add (.elem (.arg 64321) (.int 0)) (.add (.elem (.arg 64353) (.int 0)) (.arg 1308)), .int 5) = true := k157.mpr (by
    rw [eB, eD]
    exact amn_c (K := 4) (m := 90) (by decide) rfl h7 h5 (Or.inr ⟨by rw [← hc]; decide, fun j hj => by
    by_cases hi : 90 ≤ j ∧ j < 90 + 5
    · rw [if_pos hi]; exact hAf j hi.1 hi.2
    · rw [if_neg hi, hAn j hi]⟩))
  have x5 : sc X ρ3 (155, .elem (.arg 64353) (.int 0), .int 0) = true := k155.mpr (by rw [eB]; exact h5)
  have z1 : sc X ρ3 (6, .elem (.arg 64321) (.int 1), .long 0) = true := decide_eq_true (show ρ3.2.2.2.1 64321 1 = 0 by
    rw [hAn 1 (by decide)]
    exact of_decide_eq_true (hF.2 _ (List.mem_cons_of_mem _ (List.mem_cons_of_mem _ (List.mem_cons_of_mem _ (List.mem_cons_of_mem _ (List.mem_cons_of_mem _ (List.mem_cons_of_mem _ (List.mem_cons_self)))))))))
  have z2 : sc X ρ3 (6, .elem (.arg 64353) (.int 114), .long 0) = true := decide_eq_true (show ρ3.2.2.2.1 64353 114 = 0 by
    rw [hB]
    exact of_decide_eq_true (hF.2 _ (List.mem_cons_of_mem _ (List.mem_cons_of_mem _ (List.mem_cons_of_mem _ (List.mem_cons_of_mem _ (List.mem_cons_of_mem _ (List.mem_cons_of_mem _ (List.mem_cons_of_mem _ (List.mem_cons_self))))))))))
  have z3 : sc X ρ3 (6, .elem (.arg 64353) (.int 123), .long 0) = true := decide_eq_true (show ρ3.2.2.2.1 64353 123 = 0 by
    rw [hB]
    exact of_decide_eq_true (hF.2 _ (List.mem_cons_of_mem _ (List.mem_cons_of_mem _ (List.mem_cons_of_mem _ (List.mem_cons_of_mem _ (List.mem_cons_of_mem _ (List.mem_cons_of_mem _ (List.mem_cons_of_mem _ (List.mem_cons_of_mem _ (List.mem_cons_self)))))))))))
  exact t_mc5 hv ρ3 m1 ⟨m2.1, fcn (x7) (fcn (x5) (fcn (z1) (fcn (z2) (fcn (z3) (m2.2)))))⟩ m3 m4)))
theorem t_mb4 {X : pX} {ρ0 : sR} (hv : vok X ρ0) : CUTOK X kR zWB c_bn1 13 ρ0 q_mb4 := fun ρ k1 hF hI k4 => by
  have h5 := k155.mp (hF.2 _ (List.mem_cons_of_mem _ (List.mem_cons_of_mem _ (List.mem_cons_self))))
  have h7 := (k157.mp (hF.2 _ (List.mem_cons_of_mem _ (List.mem_cons_self))) 90 (by decide)).resolve_left (by decide)
  have eA : (ρ.2.2.2.1 64321 90).toInt = (ρ.2.2.2.1 64353 90).toInt := h7.trans (amn_i (K := 4) (m := 90) (by decide) (by decide) rfl (by decide) (by decide))
  obtain ⟨v0, v4⟩ := ev_m4 (m := 90) (by decide) (h5 90 (by decide))
  rw [← eA] at v0 v4
  have ev : ρ.2.1 60033 = ρ.2.2.2.1 64321 90 := of_decide_eq_true (hF.2 _ (List.mem_cons_self))
  rw [← ev] at v0 v4
  rcases am_3 (g := ρ.2.2.2.1 64321) (m := 90) (n := (ρ.2.1 60033).toInt.toNat) with h | h | h
  · exact t_mb4o hv ρ k1 ⟨hF.1, fcn (dl_lf (x := ρ.2.1 60033) (y := 0) (show (0 : Int) ≤ _ from v0)) (fcn (dl_lf (x := 4) (y := ρ.2.1 60033) (show _ ≤ (4 : Int) from v4)) (fcn (decide_eq_true (show (0 : Int) = amcode (ρ.2.2.2.1 64321) 90 (ρ.2.1 60033).toInt.toNat from h.symm)) (hF.2)))⟩ hI k4
  · exact t_mb4n hv ρ k1 ⟨hF.1, fcn (dl_lf (x := ρ.2.1 60033) (y := 0) (show (0 : Int) ≤ _ from v0)) (fcn (dl_lf (x := 4) (y := ρ.2.1 60033) (show _ ≤ (4 : Int) from v4)) (fcn (decide_eq_true (show (100925505 : Int) = amcode (ρ.2.2.2.1 64321) 90 (ρ.2.1 60033).toInt.toNat from h.symm)) (hF.2)))⟩ hI k4
  · exact t_mb4l hv ρ k1 ⟨hF.1, fcn (dl_lf (x := ρ.2.1 60033) (y := 0) (show (0 : Int) ≤ _ from v0)) (fcn (dl_lf (x := 4) (y := ρ.2.1 60033) (show _ ≤ (4 : Int) from v4)) (fcn (decide_eq_true (show (100925506 : Int) = amcode (ρ.2.2.2.1 64321) 90 (ρ.2.1 60033).toInt.toNat from h.symm)) (hF.2)))⟩ hI k4
noncomputable def q_mc4 : sCut := ((fr 0 95 34 [(0, tr 75), (1, .int 50), (2, .int 3)] [], [fr 0 93 70 [(0, tr 75)] [], fr 0 60 30 [(0, tr 39), (1, .int 1)] [], fBot], 11), (fr 0 297 64 [(0, tr 219), (1, .arg 1308)] [], [fr 0 300 36 [(0, tr 219), (1, .arg 1308)] [], fBot], 12), [zf98zzzb_83, zf98zzzb_12, zf98zzzb_13, zf98zzzb_14, zf98zzzb_15, ((0, .arg 2816, .int 1), true), zf98zzzb_0, zf98zzzb_1, zf98zzzb_2, zf98zzzb_3, zf98zzzb_4, ((0, .arg 1698, .int 0), true), ((0, .arg 1300, .int 0), true), ((0, .arg 1302, .int 0), true), ((0, .arg 1430, .int 0), true), ((0, .arg 1318, .int 0), true), ((0, .arg 3232, .int 0), true), ((0, .arg 2050, .int 0), true), ((0, .arg 3264, .int 0), true), ((0, .arg 3296, .int 0), true), ((0, .arg 3328, .int 0), true), ((0, .arg 3168, .int 0), true), ((0, .arg 1858, .int 0), true), ((0, .arg 1890, .int 0), true), ((0, .arg 1922, .int 0), true), ((0, .arg 3008, .int 0), true), ((0, .arg 1954, .int 0), true), ((0, .arg 1986, .int 0), true), ((0, .arg 2018, .int 0), true), zf98zzzb_5, ((0, .arg 1702, .int 0), true), ((0, .arg 3360, .int 0), true), ((0, .arg 1350, .int 0), true), ((0, .arg 1826, .int 0), true), zf98zzzb_6, zf98zzzb_7, zf98zzzb_8, zf98zzzb_9, ((0, .arg 1730, .int 0), true)], i_bz)
theorem k_mc4 : cbody kR [] (cpl1 zWB c_bn1 [q_mb4]) (cpl2 zWB c_bn1 [q_mb4]) (cleaf kR zWB c_bn1 [q_mb4]) 60 true false q_mc4.2.2.1 q_mc4.2.2.2 (cst zWB c_bn1.2.2.1.1 q_mc4.1) (cst zWB c_bn1.2.2.1.2 q_mc4.2.1) = true := by decide +kernel
theorem t_mc4 {X : pX} {ρ0 : sR} (hv : vok X ρ0) : CUTOK X kR zWB c_bn1 13 ρ0 q_mc4 := CUT_run kR_x kR_0 (Cs := []) (fun C hC => by cases hC) c_bn1_f (Q := [q_mb4]) hv (fun q hq => by
    simp only [List.mem_cons, List.not_mem_nil, or_false] at hq
    rw [hq]; exact t_mb4 hv) 60 (b1 := true) (b2 := false) k_mc4
noncomputable def zf98zzzb_84 : sQ × Bool := ((6, .arg 60033, .elem (.arg 64321) (.int 65)), true)
noncomputable def zf98zzzb_85 : sQ × Bool := ((157, .add (.elem (.arg 64321) (.int 0)) (.add (.elem (.arg 64353) (.int 0)) (.arg 1308)), .int 3), true)
noncomputable def q_mb3 : sCut := ((fr 0 95 19 [(0, tr 75), (1, .int 50), (2, .int 3), (3, .int 65)] [.arg 60033, .int 65, tr 42], [fr 0 93 70 [(0, tr 75)] [], fr 0 60 30 [(0, tr 39), (1, .int 1)] [], fBot], 11), (fr 0 297 64 [(0, tr 219), (1, .arg 1308)] [], [fr 0 300 36 [(0, tr 219), (1, .arg 1308)] [], fBot], 12), [zf98zzzb_84, zf98zzzb_85, zf98zzzb_12, zf98zzzb_13, zf98zzzb_14, zf98zzzb_15, ((0, .arg 2816, .int 1), true), zf98zzzb_0, zf98zzzb_1, zf98zzzb_2, zf98zzzb_3, zf98zzzb_4, ((0, .arg 1698, .int 0), true), ((0, .arg 1300, .int 0), true), ((0, .arg 1302, .int 0), true), ((0, .arg 1430, .int 0), true), ((0, .arg 1318, .int 0), true), ((0, .arg 3232, .int 0), true), ((0, .arg 2050, .int 0), true), ((0, .arg 3264, .int 0), true), ((0, .arg 3296, .int 0), true), ((0, .arg 3328, .int 0), true), ((0, .arg 3168, .int 0), true), ((0, .arg 1858, .int 0), true), ((0, .arg 1890, .int 0), true), ((0, .arg 1922, .int 0), true), ((0, .arg 3008, .int 0), true), ((0, .arg 1954, .int 0), true), ((0, .arg 1986, .int 0), true), ((0, .arg 2018, .int 0), true), zf98zzzb_5, ((0, .arg 1702, .int 0), true), ((0, .arg 3360, .int 0), true), ((0, .arg 1350, .int 0), true), ((0, .arg 1826, .int 0), true), zf98zzzb_6, zf98zzzb_7, zf98zzzb_8, zf98zzzb_9, ((0, .arg 1730, .int 0), true)], i_bz)
noncomputable def q_mb3o : sCut := ((fr 0 95 19 [(0, tr 75), (1, .int 50), (2, .int 3), (3, .int 65)] [.arg 60033, .int 65, tr 42], [fr 0 93 70 [(0, tr 75)] [], fr 0 60 30 [(0, tr 39), (1, .int 1)] [], fBot], 11), (fr 0 297 64 [(0, tr 219), (1, .arg 1308)] [], [fr 0 300 36 [(0, tr 219), (1, .arg 1308)] [], fBot], 12), [zf98zzzb_76, zf98zzzb_77, ((139, .add (.elem (.arg 64321) (.int 0)) (.add (.int 65) (.arg 60033)), .int 0), true), zf98zzzb_84, zf98zzzb_85, zf98zzzb_12, zf98zzzb_13, zf98zzzb_14, zf98zzzb_15, ((0, .arg 2816, .int 1), true), zf98zzzb_0, zf98zzzb_1, zf98zzzb_2, zf98zzzb_3, zf98zzzb_4, ((0, .arg 1698, .int 0), true), ((0, .arg 1300, .int 0), true), ((0, .arg 1302, .int 0), true), ((0, .arg 1430, .int 0), true), ((0, .arg 1318, .int 0), true), ((0, .arg 3232, .int 0), true), ((0, .arg 2050, .int 0), true), ((0, .arg 3264, .int 0), true), ((0, .arg 3296, .int 0), true), ((0, .arg 3328, .int 0), true), ((0, .arg 3168, .int 0), true), ((0, .arg 1858, .int 0), true), ((0, .arg 1890, .int 0), true), ((0, .arg 1922, .int 0), true), ((0, .arg 3008, .int 0), true), ((0, .arg 1954, .int 0), true), ((0, .arg 1986, .int 0), true), ((0, .arg 2018, .int 0), true), zf98zzzb_5, ((0, .arg 1702, .int 0), true), ((0, .arg 3360, .int 0), true), ((0, .arg 1350, .int 0), true), ((0, .arg 1826, .int 0), true), zf98zzzb_6, zf98zzzb_7, zf98zzzb_8, zf98zzzb_9, ((0, .arg 1730, .int 0), true)], i_bz)
noncomputable def w_mb3o : List (sCut × List (Nat × sT) × List (Nat × sT × List (sT × sT))) := [(q_mc4T, [], [(64321, .arg 64321, []), (64353, .arg 64353, [])])]
theorem k_mb3o : cbody kR [(zWB, c_mco)] (cpl1 zWB c_bn1 [q_mc4T]) (cpl2 zWB c_bn1 [q_mc4T]) (cleafB kR zWB c_bn1 w_mb3o) 700 false false q_mb3o.2.2.1 q_mb3o.2.2.2 (cst zWB c_bn1.2.2.1.1 q_mb3o.1) (cst zWB c_bn1.2.2.1.2 q_mb3o.2.1) = true := by decide +kernel
theorem t_mb3o {X : pX} {ρ0 : sR} (hv : vok X ρ0) : CUTOK X kR zWB c_bn1 13 ρ0 q_mb3o := CUTOK_AT (fun ρ k1 hF hI k4 => AT_of (q := q_mb3o) rfl rfl (SEM_runB kR_x kR_0 (Cs := [(zWB, c_mco)]) (fun C hC => by rw [List.mem_singleton.mp hC]; exact s_mco) c_bn1_f (Q := w_mb3o) hv 700 (b1 := false) (b2 := false) k_mb3o k1 hF hI k4 (fun p hp ρ3 m1 m2 m3 m4 m5 m6 => by
  rw [List.mem_singleton.mp hp] at m2 m3 m5 m6 ⊢
  have eD : ρ3.1 1308 = ρ.1 1308 := (m4.1 1308 (by decide) (by decide)).1.trans (k4.1 1308 (by decide) (by decide)).1.symm
  obtain ⟨d0, d4⟩ := d_r hF.1
  have hB : ∀ j, ρ3.2.2.2.1 64353 j = ρ.2.2.2.1 64353 j := fun j => by
    have hw := m6 (64353, .arg 64353, []) (List.mem_cons_of_mem _ (List.mem_cons_self)) j
    have hw : Value.long (ρ3.2.2.2.1 64353 j) = Value.long (ρ.2.2.2.1 64353 j) := hw
    exact Value.long.inj hw
  have hA : ∀ j, ρ3.2.2.2.1 64321 j = ρ.2.2.2.1 64321 j := fun j => by
    have hw := m6 (64321, .arg 64321, []) (List.mem_cons_self) j
    have hw : Value.long (ρ3.2.2.2.1 64321 j) = Value.long (ρ.2.2.2.1 64321 j) := hw
    exact Value.long.inj hw
  have h7 := k157.mp (hF.2 _ (List.mem_cons_of_mem _ (List.mem_cons_of_mem _ (List.mem_cons_of_mem _ (List.mem_cons_of_mem _ (List.mem_cons_self))))))
  have h5 := k155.mp (hF.2 _ (List.mem_cons_of_mem _ (List.mem_cons_of_mem _ (List.mem_cons_of_mem _ (List.mem_cons_of_mem _ (List.mem_cons_of_mem _ (List.mem_cons_self)))))))
  have eB : ρ3.2.2.2.1 64353 = ρ.2.2.2.1 64353 := funext hB
  have ev : ρ.2.1 60033 = ρ.2.2.2.1 64321 65 := of_decide_eq_true (hF.2 _ (List.mem_cons_of_mem _ (List.mem_cons_of_mem _ (List.mem_cons_of_mem _ (List.mem_cons_self)))))
  have hc : (0 : Int) = amcode (ρ.2.2.2.1 64321) 65 (ρ.2.1 60033).toInt.toNat := of_decide_eq_true (hF.2 _ (List.mem_cons_of_mem _ (List.mem_cons_of_mem _ (List.mem_cons_self))))
  rw [ev] at hc
  have x7 : sc X ρ3 (157, .add (.elem (.arg 64321) (.int 0)) (.add (.elem (.arg 64353) (.int 0)) (.arg 1308)), .int 4) = true := k157.mpr (by
    rw [eB, eD]
    exact amn_c (K := 3) (m := 65) (by decide) rfl h7 h5 (Or.inl ⟨hc.symm, fun j _ => hA j⟩))
  have x5 : sc X ρ3 (155, .elem (.arg 64353) (.int 0), .int 0) = true := k155.mpr (by rw [eB]; exact h5)
  have z1 : sc X ρ3 (6, .elem (.arg 64321) (.int 1), .long 0) = true := decide_eq_true (show ρ3.2.2.2.1 64321 1 = 0 by
    rw [hA]
    exact of_decide_eq_true (hF.2 _ (List.mem_cons_of_mem _ (List.mem_cons_of_mem _ (List.mem_cons_of_mem _ (List.mem_cons_of_mem _ (List.mem_cons_of_mem _ (List.mem_cons_of_mem _ (List.mem_cons_self)))))))))
  have z2 : sc X ρ3 (6, .elem (.arg 64353) (.int 114), .long 0) = true := decide_eq_true (show ρ3.2.2.2.1 64353 114 = 0 by
    rw [hB]
    exact of_decide_eq_true (hF.2 _ (List.mem_cons_of_mem _ (List.mem_cons_of_mem _ (List.mem_cons_of_mem _ (List.mem_cons_of_mem _ (List.mem_cons_of_mem _ (List.mem_cons_of_mem _ (List.mem_cons_of_mem _ (List.mem_cons_self))))))))))
  have z3 : sc X ρ3 (6, .elem (.arg 64353) (.int 123), .long 0) = true := decide_eq_true (show ρ3.2.2.2.1 64353 123 = 0 by
    rw [hB]
    exact of_decide_eq_true (hF.2 _ (List.mem_cons_of_mem _ (List.mem_cons_of_mem _ (List.mem_cons_of_mem _ (List.mem_cons_of_mem _ (List.mem_cons_of_mem _ (List.mem_cons_of_mem _ (List.mem_cons_of_mem _ (List.mem_cons_of_mem _ (List.mem_cons_self)))))))))))
  exact t_mc4 hv ρ3 m1 ⟨m2.1, fcn (x7) (fcn (x5) (fcn (z1) (fcn (z2) (fcn (z3) (m2.2)))))⟩ m3 m4)))
noncomputable def q_mb3n : sCut := ((fr 0 95 19 [(0, tr 75), (1, .int 50), (2, .int 3), (3, .int 65)] [.arg 60033, .int 65, tr 42], [fr 0 93 70 [(0, tr 75)] [], fr 0 60 30 [(0, tr 39), (1, .int 1)] [], fBot], 11), (fr 0 297 64 [(0, tr 219), (1, .arg 1308)] [], [fr 0 300 36 [(0, tr 219), (1, .arg 1308)] [], fBot], 12), [zf98zzzb_76, zf98zzzb_77, ((139, .add (.elem (.arg 64321) (.int 0)) (.add (.int 65) (.arg 60033)), .int 100925505), true), zf98zzzb_84, zf98zzzb_85, zf98zzzb_12, zf98zzzb_13, zf98zzzb_14, zf98zzzb_15, ((0, .arg 2816, .int 1), true), zf98zzzb_0, zf98zzzb_1, zf98zzzb_2, zf98zzzb_3, zf98zzzb_4, ((0, .arg 1698, .int 0), true), ((0, .arg 1300, .int 0), true), ((0, .arg 1302, .int 0), true), ((0, .arg 1430, .int 0), true), ((0, .arg 1318, .int 0), true), ((0, .arg 3232, .int 0), true), ((0, .arg 2050, .int 0), true), ((0, .arg 3264, .int 0), true), ((0, .arg 3296, .int 0), true), ((0, .arg 3328, .int 0), true), ((0, .arg 3168, .int 0), true), ((0, .arg 1858, .int 0), true), ((0, .arg 1890, .int 0), true), ((0, .arg 1922, .int 0), true), ((0, .arg 3008, .int 0), true), ((0, .arg 1954, .int 0), true), ((0, .arg 1986, .int 0), true), ((0, .arg 2018, .int 0), true), zf98zzzb_5, ((0, .arg 1702, .int 0), true), ((0, .arg 3360, .int 0), true), ((0, .arg 1350, .int 0), true), ((0, .arg 1826, .int 0), true), zf98zzzb_6, zf98zzzb_7, zf98zzzb_8, zf98zzzb_9, ((0, .arg 1730, .int 0), true)], i_bz)
noncomputable def w_mb3n : List (sCut × List (Nat × sT) × List (Nat × sT × List (sT × sT))) := [(q_mc4T, [], [(64321, .arg 64321, [(.int 69, .long 0), (.int 68, .long 0), (.int 67, .long 0), (.int 66, .long 0), (.int 65, .long 0)]), (64353, .arg 64353, [])])]
theorem k_mb3n : cbody kR [(zWB, c_mcn)] (cpl1 zWB c_bn1 [q_mc4T]) (cpl2 zWB c_bn1 [q_mc4T]) (cleafB kR zWB c_bn1 w_mb3n) 700 false false q_mb3n.2.2.1 q_mb3n.2.2.2 (cst zWB c_bn1.2.2.1.1 q_mb3n.1) (cst zWB c_bn1.2.2.1.2 q_mb3n.2.1) = true := by decide +kernel
theorem t_mb3n {X : pX} {ρ0 : sR} (hv : vok X ρ0) : CUTOK X kR zWB c_bn1 13 ρ0 q_mb3n := CUTOK_AT (fun ρ k1 hF hI k4 => AT_of (q := q_mb3n) rfl rfl (SEM_runB kR_x kR_0 (Cs := [(zWB, c_mcn)]) (fun C hC => by rw [List.mem_singleton.mp hC]; exact s_mcn) c_bn1_f (Q := w_mb3n) hv 700 (b1 := false) (b2 := false) k_mb3n k1 hF hI k4 (fun p hp ρ3 m1 m2 m3 m4 m5 m6 => by
  rw [List.mem_singleton.mp hp] at m2 m3 m5 m6 ⊢
  have eD : ρ3.1 1308 = ρ.1 1308 := (m4.1 1308 (by decide) (by decide)).1.trans (k4.1 1308 (by decide) (by decide)).1.symm
  obtain ⟨d0, d4⟩ := d_r hF.1
  have hB : ∀ j, ρ3.2.2.2.1 64353 j = ρ.2.2.2.1 64353 j := fun j => by
    have hw := m6 (64353, .arg 64353, []) (List.mem_cons_of_mem _ (List.mem_cons_self)) j
    have hw : Value.long (ρ3.2.2.2.1 64353 j) = Value.long (ρ.2.2.2.1 64353 j) := hw
    exact Value.long.inj hw
  obtain ⟨hAn, hAf⟩ := fiv_w (f := ρ.2.2.2.1 64321) (g := ρ3.2.2.2.1 64321) (m := 65) (d := (ρ.1 1308).toInt) (v0 := 0) (v1 := 0) (v2 := 0) (v3 := 0) (v4 := 0) (fun j => m6 (64321, .arg 64321, [(.int 69, .long 0), (.int 68, .long 0), (.int 67, .long 0), (.int 66, .long 0), (.int 65, .long 0)]) (List.mem_cons_self) j) (amw_65 d0 d4 (i := 0) (by decide)) (amw_65 d0 d4 (i := 1) (by decide)) (amw_65 d0 d4 (i := 2) (by decide)) (amw_65 d0 d4 (i := 3) (by decide)) (amw_65 d0 d4 (i := 4) (by decide))
  have h7 := k157.mp (hF.2 _ (List.mem_cons_of_mem _ (List.mem_cons_of_mem _ (List.mem_cons_of_mem _ (List.mem_cons_of_mem _ (List.mem_cons_self))))))
  have h5 := k155.mp (hF.2 _ (List.mem_cons_of_mem _ (List.mem_cons_of_mem _ (List.mem_cons_of_mem _ (List.mem_cons_of_mem _ (List.mem_cons_of_mem _ (List.mem_cons_self)))))))
  have eB : ρ3.2.2.2.1 64353 = ρ.2.2.2.1 64353 := funext hB
  have ev : ρ.2.1 60033 = ρ.2.2.2.1 64321 65 := of_decide_eq_true (hF.2 _ (List.mem_cons_of_mem _ (List.mem_cons_of_mem _ (List.mem_cons_of_mem _ (List.mem_cons_self)))))
  have hc : (100925505 : Int) = amcode (ρ.2.2.2.1 64321) 65 (ρ.2.1 60033).toInt.toNat := of_decide_eq_true (hF.2 _ (List.mem_cons_of_mem _ (List.mem_cons_of_mem _ (List.mem_cons_self))))
  rw [ev] at hc
  have x7 : sc X ρ3 (157, .add (.elem (.arg 64321) (.int 0)) (.add (.elem (.arg 64353) (.int 0)) (.arg 1308)), .int 4) = true := k157.mpr (by
    rw [eB, eD]
    exact amn_c (K := 3) (m := 65) (by decide) rfl h7 h5 (Or.inr ⟨by rw [← hc]; decide, fun j hj => by
    by_cases hi : 65 ≤ j ∧ j < 65 + 5
    · rw [if_pos hi]; exact hAf j hi.1 hi.2
    · rw [if_neg hi, hAn j hi]⟩))
  have x5 : sc X ρ3 (155, .elem (.arg 64353) (.int 0), .int 0) = true := k155.mpr (by rw [eB]; exact h5)
  have z1 : sc X ρ3 (6, .elem (.arg 64321) (.int 1), .long 0) = true := decide_eq_true (show ρ3.2.2.2.1 64321 1 = 0 by
    rw [hAn 1 (by decide)]
    exact of_decide_eq_true (hF.2 _ (List.mem_cons_of_mem _ (List.mem_cons_of_mem _ (List.mem_cons_of_mem _ (List.mem_cons_of_mem _ (List.mem_cons_of_mem _ (List.mem_cons_of_mem _ (List.mem_cons_self)))))))))
  have z2 : sc X ρ3 (6, .elem (.arg 64353) (.int 114), .long 0) = true := decide_eq_true (show ρ3.2.2.2.1 64353 114 = 0 by
    rw [hB]
    exact of_decide_eq_true (hF.2 _ (List.mem_cons_of_mem _ (List.mem_cons_of_mem _ (List.mem_cons_of_mem _ (List.mem_cons_of_mem _ (List.mem_cons_of_mem _ (List.mem_cons_of_mem _ (List.mem_cons_of_mem _ (List.mem_cons_self))))))))))
  have z3 : sc X ρ3 (6, .elem (.arg 64353) (.int 123), .long 0) = true := decide_eq_true (show ρ3.2.2.2.1 64353 123 = 0 by
    rw [hB]
    exact of_decide_eq_true (hF.2 _ (List.mem_cons_of_mem _ (List.mem_cons_of_mem _ (List.mem_cons_of_mem _ (List.mem_cons_of_mem _ (List.mem_cons_of_mem _ (List.mem_cons_of_mem _ (List.mem_cons_of_mem _ (List.mem_cons_of_mem _ (List.mem_cons_self)))))))))))
  exact t_mc4 hv ρ3 m1 ⟨m2.1, fcn (x7) (fcn (x5) (fcn (z1) (fcn (z2) (fcn (z3) (m2.2)))))⟩ m3 m4)))
noncomputable def q_mb3l : sCut := ((fr 0 95 19 [(0, tr 75), (1, .int 50), (2, .int 3), (3, .int 65)] [.arg 60033, .int 65, tr 42], [fr 0 93 70 [(0, tr 75)] [], fr 0 60 30 [(0, tr 39), (1, .int 1)] [], fBot], 11), (fr 0 297 64 [(0, tr 219), (1, .arg 1308)] [], [fr 0 300 36 [(0, tr 219), (1, .arg 1308)] [], fBot], 12), [zf98zzzb_76, zf98zzzb_77, ((139, .add (.elem (.arg 64321) (.int 0)) (.add (.int 65) (.arg 60033)), .int 100925506), true), zf98zzzb_84, zf98zzzb_85, zf98zzzb_12, zf98zzzb_13, zf98zzzb_14, zf98zzzb_15, ((0, .arg 2816, .int 1), true), zf98zzzb_0, zf98zzzb_1, zf98zzzb_2, zf98zzzb_3, zf98zzzb_4, ((0, .arg 1698, .int 0), true), ((0, .arg 1300, .int 0), true), ((0, .arg 1302, .int 0), true), ((0, .arg 1430, .int 0), true), ((0, .arg 1318, .int 0), true), ((0, .arg 3232, .int 0), true), ((0, .arg 2050, .int 0), true), ((0, .arg 3264, .int 0), true), ((0, .arg 3296, .int 0), true), ((0, .arg 3328, .int 0), true), ((0, .arg 3168, .int 0), true), ((0, .arg 1858, .int 0), true), ((0, .arg 1890, .int 0), true), ((0, .arg 1922, .int 0), true), ((0, .arg 3008, .int 0), true), ((0, .arg 1954, .int 0), true), ((0, .arg 1986, .int 0), true), ((0, .arg 2018, .int 0), true), zf98zzzb_5, ((0, .arg 1702, .int 0), true), ((0, .arg 3360, .int 0), true), ((0, .arg 1350, .int 0), true), ((0, .arg 1826, .int 0), true), zf98zzzb_6, zf98zzzb_7, zf98zzzb_8, zf98zzzb_9, ((0, .arg 1730, .int 0), true)], i_bz)
noncomputable def w_mb3l : List (sCut × List (Nat × sT) × List (Nat × sT × List (sT × sT))) := [(q_mc4T, [], [(64321, .arg 64321, [(.int 69, .long 0), (.int 68, .long 0), (.int 67, .long 0), (.int 66, .long 0), (.int 65, .long 0)]), (64353, .arg 64353, [])])]
theorem k_mb3l : cbody kR [(zWB, c_mcl)] (cpl1 zWB c_bn1 [q_mc4T]) (cpl2 zWB c_bn1 [q_mc4T]) (cleafB kR zWB c_bn1 w_mb3l) 700 false false q_mb3l.2.2.1 q_mb3l.2.2.2 (cst zWB c_bn1.2.2.1.1 q_mb3l.1) (cst zWB c_bn1.2.2.1.2 q_mb3l.2.1) = true := by decide +kernel
theorem t_mb3l {X : pX} {ρ0 : sR} (hv : vok X ρ0) : CUTOK X kR zWB c_bn1 13 ρ0 q_mb3l := CUTOK_AT (fun ρ k1 hF hI k4 => AT_of (q := q_mb3l) rfl rfl (SEM_runB kR_x kR_0 (Cs := [(zWB, c_mcl)]) (fun C hC => by rw [List.mem_singleton.mp hC]; exact s_mcl) c_bn1_f (Q := w_mb3l) hv 700 (b1 := false) (b2 := false) k_mb3l k1 hF hI k4 (fun p hp ρ3 m1 m2 m3 m4 m5 m6 => by
  rw [List.mem_singleton.mp hp] at m2 m3 m5 m6 ⊢
  have eD : ρ3.1 1308 = ρ.1 1308 := (m4.1 1308 (by decide) (by decide)).1.trans (k4.1 1308 (by decide) (by decide)).1.symm
  obtain ⟨d0, d4⟩ := d_r hF.1
  have hB : ∀ j, ρ3.2.2.2.1 64353 j = ρ.2.2.2.1 64353 j := fun j => by
    have hw := m6 (64353, .arg 64353, []) (List.mem_cons_of_mem _ (List.mem_cons_self)) j
    have hw : Value.long (ρ3.2.2.2.1 64353 j) = Value.long (ρ.2.2.2.1 64353 j) := hw
    exact Value.long.inj hw
  obtain ⟨hAn, hAf⟩ := fiv_w (f := ρ.2.2.2.1 64321) (g := ρ3.2.2.2.1 64321) (m := 65) (d := (ρ.1 1308).toInt) (v0 := 0) (v1 := 0) (v2 := 0) (v3 := 0) (v4 := 0) (fun j => m6 (64321, .arg 64321, [(.int 69, .long 0), (.int 68, .long 0), (.int 67, .long 0), (.int 66, .long 0), (.int 65, .long 0)]) (List.mem_cons_self) j) (amw_65 d0 d4 (i := 0) (by decide)) (amw_65 d0 d4 (i := 1) (by decide)) (amw_65 d0 d4 (i := 2) (by decide)) (amw_65 d0 d4 (i := 3) (by decide)) (amw_65 d0 d4 (i := 4) (by decide))
  have h7 := k157.mp (hF.2 _ (List.mem_cons_of_mem _ (List.mem_cons_of_mem _ (List.mem_cons_of_mem _ (List.mem_cons_of_mem _ (List.mem_cons_self))))))
  have h5 := k155.mp (hF.2 _ (List.mem_cons_of_mem _ (List.mem_cons_of_mem _ (List.mem_cons_of_mem _ (List.mem_cons_of_mem _ (List.mem_cons_of_mem _ (List.mem_cons_self)))))))
  have eB : ρ3.2.2.2.1 64353 = ρ.2.2.2.1 64353 := funext hB
  have ev : ρ.2.1 60033 = ρ.2.2.2.1 64321 65 := of_decide_eq_true (hF.2 _ (List.mem_cons_of_mem _ (List.mem_cons_of_mem _ (List.mem_cons_of_mem _ (List.mem_cons_self)))))
  have hc : (100925506 : Int) = amcode (ρ.2.2.2.1 64321) 65 (ρ.2.1 60033).toInt.toNat := of_decide_eq_true (hF.2 _ (List.mem_cons_of_mem _ (List.mem_cons_of_mem _ (List.mem_cons_self))))
  rw [ev] at hc
  have x7 : sc X ρ3 (157, .add (.elem (.arg 64321) (.int 0)) (.add (.elem (.arg 64353) (.int 0)) (.arg 1308)), .int 4) = true := k157.mpr (by
    rw [eB, eD]
    exact amn_c (K := 3) (m := 65) (by decide) rfl h7 h5 (Or.inr ⟨by rw [← hc]; decide, fun j hj => by
    by_cases hi : 65 ≤ j ∧ j < 65 + 5
    · rw [if_pos hi]; exact hAf j hi.1 hi.2
    · rw [if_neg hi, hAn j hi]⟩))
  have x5 : sc X ρ3 (155, .elem (.arg 64353) (.int 0), .int 0) = true := k155.mpr (by rw [eB]; exact h5)
  have z1 : sc X ρ3 (6, .elem (.arg 64321) (.int 1), .long 0) = true := decide_eq_true (show ρ3.2.2.2.1 64321 1 = 0 by
    rw [hAn 1 (by decide)]
    exact of_decide_eq_true (hF.2 _ (List.mem_cons_of_mem _ (List.mem_cons_of_mem _ (List.mem_cons_of_mem _ (List.mem_cons_of_mem _ (List.mem_cons_of_mem _ (List.mem_cons_of_mem _ (List.mem_cons_self)))))))))
  have z2 : sc X ρ3 (6, .elem (.arg 64353) (.int 114), .long 0) = true := decide_eq_true (show ρ3.2.2.2.1 64353 114 = 0 by
    rw [hB]
    exact of_decide_eq_true (hF.2 _ (List.mem_cons_of_mem _ (List.mem_cons_of_mem _ (List.mem_cons_of_mem _ (List.mem_cons_of_mem _ (List.mem_cons_of_mem _ (List.mem_cons_of_mem _ (List.mem_cons_of_mem _ (List.mem_cons_self))))))))))
  have z3 : sc X ρ3 (6, .elem (.arg 64353) (.int 123), .long 0) = true := decide_eq_true (show ρ3.2.2.2.1 64353 123 = 0 by
    rw [hB]
    exact of_decide_eq_true (hF.2 _ (List.mem_cons_of_mem _ (List.mem_cons_of_mem _ (List.mem_cons_of_mem _ (List.mem_cons_of_mem _ (List.mem_cons_of_mem _ (List.mem_cons_of_mem _ (List.mem_cons_of_mem _ (List.mem_cons_of_mem _ (List.mem_cons_self)))))))))))
  exact t_mc4 hv ρ3 m1 ⟨m2.1, fcn (x7) (fcn (x5) (fcn (z1) (fcn (z2) (fcn (z3) (m2.2)))))⟩ m3 m4)))
theorem t_mb3 {X : pX} {ρ0 : sR} (hv : vok X ρ0) : CUTOK X kR zWB c_bn1 13 ρ0 q_mb3 := fun ρ k1 hF hI k4 => by
  have h5 := k155.mp (hF.2 _ (List.mem_cons_of_mem _ (List.mem_cons_of_mem _ (List.mem_cons_self))))
  have h7 := (k157.mp (hF.2 _ (List.mem_cons_of_mem _ (List.mem_cons_self))) 65 (by decide)).resolve_left (by decide)
  have eA : (ρ.2.2.2.1 64321 65).toInt = (ρ.2.2.2.1 64353 65).toInt := h7.trans (amn_i (K := 3) (m := 65) (by decide) (by decide) rfl (by decide) (by decide))
  obtain ⟨v0, v4⟩ := ev_m4 (m := 65) (by decide) (h5 65 (by decide))
  rw [← eA] at v0 v4
  have ev : ρ.2.1 60033 = ρ.2.2.2.1 64321 65 := of_decide_eq_true (hF.2 _ (List.mem_cons_self))
  rw [← ev] at v0 v4
  rcases am_3 (g := ρ.2.2.2.1 64321) (m := 65) (n := (ρ.2.1 60033).toInt.toNat) with h | h | h
  · exact t_mb3o hv ρ k1 ⟨hF.1, fcn (dl_lf (x := ρ.2.1 60033) (y := 0) (show (0 : Int) ≤ _ from v0)) (fcn (dl_lf (x := 4) (y := ρ.2.1 60033) (show _ ≤ (4 : Int) from v4)) (fcn (decide_eq_true (show (0 : Int) = amcode (ρ.2.2.2.1 64321) 65 (ρ.2.1 60033).toInt.toNat from h.symm)) (hF.2)))⟩ hI k4
  · exact t_mb3n hv ρ k1 ⟨hF.1, fcn (dl_lf (x := ρ.2.1 60033) (y := 0) (show (0 : Int) ≤ _ from v0)) (fcn (dl_lf (x := 4) (y := ρ.2.1 60033) (show _ ≤ (4 : Int) from v4)) (fcn (decide_eq_true (show (100925505 : Int) = amcode (ρ.2.2.2.1 64321) 65 (ρ.2.1 60033).toInt.toNat from h.symm)) (hF.2)))⟩ hI k4
  · exact t_mb3l hv ρ k1 ⟨hF.1, fcn (dl_lf (x := ρ.2.1 60033) (y := 0) (show (0 : Int) ≤ _ from v0)) (fcn (dl_lf (x := 4) (y := ρ.2.1 60033) (show _ ≤ (4 : Int) from v4)) (fcn (decide_eq_true (show (100925506 : Int) = amcode (ρ.2.2.2.1 64321) 65 (ρ.2.1 60033).toInt.toNat from h.symm)) (hF.2)))⟩ hI k4
noncomputable def q_mc3 : sCut := ((fr 0 95 34 [(0, tr 75), (1, .int 50), (2, .int 2)] [], [fr 0 93 70 [(0, tr 75)] [], fr 0 60 30 [(0, tr 39), (1, .int 1)] [], fBot], 11), (fr 0 297 64 [(0, tr 219), (1, .arg 1308)] [], [fr 0 300 36 [(0, tr 219), (1, .arg 1308)] [], fBot], 12), [zf98zzzb_85, zf98zzzb_12, zf98zzzb_13, zf98zzzb_14, zf98zzzb_15, ((0, .arg 2816, .int 1), true), zf98zzzb_0, zf98zzzb_1, zf98zzzb_2, zf98zzzb_3, zf98zzzb_4, ((0, .arg 1698, .int 0), true), ((0, .arg 1300, .int 0), true), ((0, .arg 1302, .int 0), true), ((0, .arg 1430, .int 0), true), ((0, .arg 1318, .int 0), true), ((0, .arg 3232, .int 0), true), ((0, .arg 2050, .int 0), true), ((0, .arg 3264, .int 0), true), ((0, .arg 3296, .int 0), true), ((0, .arg 3328, .int 0), true), ((0, .arg 3168, .int 0), true), ((0, .arg 1858, .int 0), true), ((0, .arg 1890, .int 0), true), ((0, .arg 1922, .int 0), true), ((0, .arg 3008, .int 0), true), ((0, .arg 1954, .int 0), true), ((0, .arg 1986, .int 0), true), ((0, .arg 2018, .int 0), true), zf98zzzb_5, ((0, .arg 1702, .int 0), true), ((0, .arg 3360, .int 0), true), ((0, .arg 1350, .int 0), true), ((0, .arg 1826, .int 0), true), zf98zzzb_6, zf98zzzb_7, zf98zzzb_8, zf98zzzb_9, ((0, .arg 1730, .int 0), true)], i_bz)
theorem k_mc3 : cbody kR [] (cpl1 zWB c_bn1 [q_mb3]) (cpl2 zWB c_bn1 [q_mb3]) (cleaf kR zWB c_bn1 [q_mb3]) 60 true false q_mc3.2.2.1 q_mc3.2.2.2 (cst zWB c_bn1.2.2.1.1 q_mc3.1) (cst zWB c_bn1.2.2.1.2 q_mc3.2.1) = true := by decide +kernel
theorem t_mc3 {X : pX} {ρ0 : sR} (hv : vok X ρ0) : CUTOK X kR zWB c_bn1 13 ρ0 q_mc3 := CUT_run kR_x kR_0 (Cs := []) (fun C hC => by cases hC) c_bn1_f (Q := [q_mb3]) hv (fun q hq => by
    simp only [List.mem_cons, List.not_mem_nil, or_false] at hq
    rw [hq]; exact t_mb3 hv) 60 (b1 := true) (b2 := false) k_mc3
noncomputable def zf98zzzb_86 : sQ × Bool := ((6, .arg 60033, .elem (.arg 64321) (.int 60)), true)
noncomputable def zf98zzzb_87 : sQ × Bool := ((157, .add (.elem (.arg 64321) (.int 0)) (.add (.elem (.arg 64353) (.int 0)) (.arg 1308)), .int 2), true)
noncomputable def q_mb2 : sCut := ((fr 0 95 19 [(0, tr 75), (1, .int 50), (2, .int 2), (3, .int 60)] [.arg 60033, .int 60, tr 42], [fr 0 93 70 [(0, tr 75)] [], fr 0 60 30 [(0, tr 39), (1, .int 1)] [], fBot], 11), (fr 0 297 64 [(0, tr 219), (1, .arg 1308)] [], [fr 0 300 36 [(0, tr 219), (1, .arg 1308)] [], fBot], 12), [zf98zzzb_86, zf98zzzb_87, zf98zzzb_12, zf98zzzb_13, zf98zzzb_14, zf98zzzb_15, ((0, .arg 2816, .int 1), true), zf98zzzb_0, zf98zzzb_1, zf98zzzb_2, zf98zzzb_3, zf98zzzb_4, ((0, .arg 1698, .int 0), true), ((0, .arg 1300, .int 0), true), ((0, .arg 1302, .int 0), true), ((0, .arg 1430, .int 0), true), ((0, .arg 1318, .int 0), true), ((0, .arg 3232, .int 0), true), ((0, .arg 2050, .int 0), true), ((0, .arg 3264, .int 0), true), ((0, .arg 3296, .int 0), true), ((0, .arg 3328, .int 0), true), ((0, .arg 3168, .int 0), true), ((0, .arg 1858, .int 0), true), ((0, .arg 1890, .int 0), true), ((0, .arg 1922, .int 0), true), ((0, .arg 3008, .int 0), true), ((0, .arg 1954, .int 0), true), ((0, .arg 1986, .int 0), true), ((0, .arg 2018, .int 0), true), zf98zzzb_5, ((0, .arg 1702, .int 0), true), ((0, .arg 3360, .int 0), true), ((0, .arg 1350, .int 0), true), ((0, .arg 1826, .int 0), true), zf98zzzb_6, zf98zzzb_7, zf98zzzb_8, zf98zzzb_9, ((0, .arg 1730, .int 0), true)], i_bz)
noncomputable def q_mb2o : sCut := ((fr 0 95 19 [(0, tr 75), (1, .int 50), (2, .int 2), (3, .int 60)] [.arg 60033, .int 60, tr 42], [fr 0 93 70 [(0, tr 75)] [], fr 0 60 30 [(0, tr 39), (1, .int 1)] [], fBot], 11), (fr 0 297 64 [(0, tr 219), (1, .arg 1308)] [], [fr 0 300 36 [(0, tr 219), (1, .arg 1308)] [], fBot], 12), [zf98zzzb_76, zf98zzzb_77, ((139, .add (.elem (.arg 64321) (.int 0)) (.add (.int 60) (.arg 60033)), .int 0), true), zf98zzzb_86, zf98zzzb_87, zf98zzzb_12, zf98zzzb_13, zf98zzzb_14, zf98zzzb_15, ((0, .arg 2816, .int 1), true), zf98zzzb_0, zf98zzzb_1, zf98zzzb_2, zf98zzzb_3, zf98zzzb_4, ((0, .arg 1698, .int 0), true), ((0, .arg 1300, .int 0), true), ((0, .arg 1302, .int 0), true), ((0, .arg 1430, .int 0), true), ((0, .arg 1318, .int 0), true), ((0, .arg 3232, .int 0), true), ((0, .arg 2050, .int 0), true), ((0, .arg 3264, .int 0), true), ((0, .arg 3296, .int 0), true), ((0, .arg 3328, .int 0), true), ((0, .arg 3168, .int 0), true), ((0, .arg 1858, .int 0), true), ((0, .arg 1890, .int 0), true), ((0, .arg 1922, .int 0), true), ((0, .arg 3008, .int 0), true), ((0, .arg 1954, .int 0), true), ((0, .arg 1986, .int 0), true), ((0, .arg 2018, .int 0), true), zf98zzzb_5, ((0, .arg 1702, .int 0), true), ((0, .arg 3360, .int 0), true), ((0, .arg 1350, .int 0), true), ((0, .arg 1826, .int 0), true), zf98zzzb_6, zf98zzzb_7, zf98zzzb_8, zf98zzzb_9, ((0, .arg 1730, .int 0), true)], i_bz)
noncomputable def w_mb2o : List (sCut × List (Nat × sT) × List (Nat × sT × List (sT × sT))) := [(q_mc3T, [], [(64321, .arg 64321, []), (64353, .arg 64353, [])])]
theorem k_mb2o : cbody kR [(zWB, c_mco)] (cpl1 zWB c_bn1 [q_mc3T]) (cpl2 zWB c_bn1 [q_mc3T]) (cleafB kR zWB c_bn1 w_mb2o) 700 false false q_mb2o.2.2.1 q_mb2o.2.2.2 (cst zWB c_bn1.2.2.1.1 q_mb2o.1) (cst zWB c_bn1.2.2.1.2 q_mb2o.2.1) = true := by decide +kernel
theorem t_mb2o {X : pX} {ρ0 : sR} (hv : vok X ρ0) : CUTOK X kR zWB c_bn1 13 ρ0 q_mb2o := CUTOK_AT (fun ρ k1 hF hI k4 => AT_of (q := q_mb2o) rfl rfl (SEM_runB kR_x kR_0 (Cs := [(zWB, c_mco)]) (fun C hC => by rw [List.mem_singleton.mp hC]; exact s_mco) c_bn1_f (Q := w_mb2o) hv 700 (b1 := false) (b2 := false) k_mb2o k1 hF hI k4 (fun p hp ρ3 m1 m2 m3 m4 m5 m6 => by
  rw [List.mem_singleton.mp hp] at m2 m3 m5 m6 ⊢
  have eD : ρ3.1 1308 = ρ.1 1308 := (m4.1 1308 (by decide) (by decide)).1.trans (k4.1 1308 (by decide) (by decide)).1.symm
  obtain ⟨d0, d4⟩ := d_r hF.1
  have hB : ∀ j, ρ3.2.2.2.1 64353 j = ρ.2.2.2.1 64353 j := fun j => by
    have hw := m6 (64353, .arg 64353, []) (List.mem_cons_of_mem _ (List.mem_cons_self)) j
    have hw : Value.long (ρ3.2.2.2.1 64353 j) = Value.long (ρ.2.2.2.1 64353 j) := hw
    exact Value.long.inj hw
  have hA : ∀ j, ρ3.2.2.2.1 64321 j = ρ.2.2.2.1 64321 j := fun j => by
    have hw := m6 (64321, .arg 64321, []) (List.mem_cons_self) j
    have hw : Value.long (ρ3.2.2.2.1 64321 j) = Value.long (ρ.2.2.2.1 64321 j) := hw
    exact Value.long.inj hw
  have h7 := k157.mp (hF.2 _ (List.mem_cons_of_mem _ (List.mem_cons_of_mem _ (List.mem_cons_of_mem _ (List.mem_cons_of_mem _ (List.mem_cons_self))))))
  have h5 := k155.mp (hF.2 _ (List.mem_cons_of_mem _ (List.mem_cons_of_mem _ (List.mem_cons_of_mem _ (List.mem_cons_of_mem _ (List.mem_cons_of_mem _ (List.mem_cons_self)))))))
  have eB : ρ3.2.2.2.1 64353 = ρ.2.2.2.1 64353 := funext hB
  have ev : ρ.2.1 60033 = ρ.2.2.2.1 64321 60 := of_decide_eq_true (hF.2 _ (List.mem_cons_of_mem _ (List.mem_cons_of_mem _ (List.mem_cons_of_mem _ (List.mem_cons_self)))))
  have hc : (0 : Int) = amcode (ρ.2.2.2.1 64321) 60 (ρ.2.1 60033).toInt.toNat := of_decide_eq_true (hF.2 _ (List.mem_cons_of_mem _ (List.mem_cons_of_mem _ (List.mem_cons_self))))
  rw [ev] at hc
  have x7 : sc X ρ3 (157, .add (.elem (.arg 64321) (.int 0)) (.add (.elem (.arg 64353) (.int 0)) (.arg 1308)), .int 3) = true := k157.mpr (by
    rw [eB, eD]
    exact amn_c (K := 2) (m := 60) (by decide) rfl h7 h5 (Or.inl ⟨hc.symm, fun j _ => hA j⟩))
  have x5 : sc X ρ3 (155, .elem (.arg 64353) (.int 0), .int 0) = true := k155.mpr (by rw [eB]; exact h5)
  have z1 : sc X ρ3 (6, .elem (.arg 64321) (.int 1), .long 0) = true := decide_eq_true (show ρ3.2.2.2.1 64321 1 = 0 by
    rw [hA]
    exact of_decide_eq_true (hF.2 _ (List.mem_cons_of_mem _ (List.mem_cons_of_mem _ (List.mem_cons_of_mem _ (List.mem_cons_of_mem _ (List.mem_cons_of_mem _ (List.mem_cons_of_mem _ (List.mem_cons_self)))))))))
  have z2 : sc X ρ3 (6, .elem (.arg 64353) (.int 114), .long 0) = true := decide_eq_true (show ρ3.2.2.2.1 64353 114 = 0 by
    rw [hB]
    exact of_decide_eq_true (hF.2 _ (List.mem_cons_of_mem _ (List.mem_cons_of_mem _ (List.mem_cons_of_mem _ (List.mem_cons_of_mem _ (List.mem_cons_of_mem _ (List.mem_cons_of_mem _ (List.mem_cons_of_mem _ (List.mem_cons_self))))))))))
  have z3 : sc X ρ3 (6, .elem (.arg 64353) (.int 123), .long 0) = true := decide_eq_true (show ρ3.2.2.2.1 64353 123 = 0 by
    rw [hB]
    exact of_decide_eq_true (hF.2 _ (List.mem_cons_of_mem _ (List.mem_cons_of_mem _ (List.mem_cons_of_mem _ (List.mem_cons_of_mem _ (List.mem_cons_of_mem _ (List.mem_cons_of_mem _ (List.mem_cons_of_mem _ (List.mem_cons_of_mem _ (List.mem_cons_self)))))))))))
  exact t_mc3 hv ρ3 m1 ⟨m2.1, fcn (x7) (fcn (x5) (fcn (z1) (fcn (z2) (fcn (z3) (m2.2)))))⟩ m3 m4)))
noncomputable def q_mb2n : sCut := ((fr 0 95 19 [(0, tr 75), (1, .int 50), (2, .int 2), (3, .int 60)] [.arg 60033, .int 60, tr 42], [fr 0 93 70 [(0, tr 75)] [], fr 0 60 30 [(0, tr 39), (1, .int 1)] [], fBot], 11), (fr 0 297 64 [(0, tr 219), (1, .arg 1308)] [], [fr 0 300 36 [(0, tr 219), (1, .arg 1308)] [], fBot], 12), [zf98zzzb_76, zf98zzzb_77, ((139, .add (.elem (.arg 64321) (.int 0)) (.add (.int 60) (.arg 60033)), .int 100925505), true), zf98zzzb_86, zf98zzzb_87, zf98zzzb_12, zf98zzzb_13, zf98zzzb_14, zf98zzzb_15, ((0, .arg 2816, .int 1), true), zf98zzzb_0, zf98zzzb_1, zf98zzzb_2, zf98zzzb_3, zf98zzzb_4, ((0, .arg 1698, .int 0), true), ((0, .arg 1300, .int 0), true), ((0, .arg 1302, .int 0), true), ((0, .arg 1430, .int 0), true), ((0, .arg 1318, .int 0), true), ((0, .arg 3232, .int 0), true), ((0, .arg 2050, .int 0), true), ((0, .arg 3264, .int 0), true), ((0, .arg 3296, .int 0), true), ((0, .arg 3328, .int 0), true), ((0, .arg 3168, .int 0), true), ((0, .arg 1858, .int 0), true), ((0, .arg 1890, .int 0), true), ((0, .arg 1922, .int 0), true), ((0, .arg 3008, .int 0), true), ((0, .arg 1954, .int 0), true), ((0, .arg 1986, .int 0), true), ((0, .arg 2018, .int 0), true), zf98zzzb_5, ((0, .arg 1702, .int 0), true), ((0, .arg 3360, .int 0), true), ((0, .arg 1350, .int 0), true), ((0, .arg 1826, .int 0), true), zf98zzzb_6, zf98zzzb_7, zf98zzzb_8, zf98zzzb_9, ((0, .arg 1730, .int 0), true)], i_bz)
noncomputable def w_mb2n : List (sCut × List (Nat × sT) × List (Nat × sT × List (sT × sT))) := [(q_mc3T, [], [(64321, .arg 64321, [(.int 64, .long 0), (.int 63, .long 0), (.int 62, .long 0), (.int 61, .long 0), (.int 60, .long 0)]), (64353, .arg 64353, [])])]
theorem k_mb2n : cbody kR [(zWB, c_mcn)] (cpl1 zWB c_bn1 [q_mc3T]) (cpl2 zWB c_bn1 [q_mc3T]) (cleafB kR zWB c_bn1 w_mb2n) 700 false false q_mb2n.2.2.1 q_mb2n.2.2.2 (cst zWB c_bn1.2.2.1.1 q_mb2n.1) (cst zWB c_bn1.2.2.1.2 q_mb2n.2.1) = true := by decide +kernel
theorem t_mb2n {X : pX} {ρ0 : sR} (hv : vok X ρ0) : CUTOK X kR zWB c_bn1 13 ρ0 q_mb2n := CUTOK_AT (fun ρ k1 hF hI k4 => AT_of (q := q_mb2n) rfl rfl (SEM_runB kR_x kR_0 (Cs := [(zWB, c_mcn)]) (fun C hC => by rw [List.mem_singleton.mp hC]; exact s_mcn) c_bn1_f (Q := w_mb2n) hv 700 (b1 := false) (b2 := false) k_mb2n k1 hF hI k4 (fun p hp ρ3 m1 m2 m3 m4 m5 m6 => by
  rw [List.mem_singleton.mp hp] at m2 m3 m5 m6 ⊢
  have eD : ρ3.1 1308 = ρ.1 1308 := (m4.1 1308 (by decide) (by decide)).1.trans (k4.1 1308 (by decide) (by decide)).1.symm
  obtain ⟨d0, d4⟩ := d_r hF.1
  have hB : ∀ j, ρ3.2.2.2.1 64353 j = ρ.2.2.2.1 64353 j := fun j => by
    have hw := m6 (64353, .arg 64353, []) (List.mem_cons_of_mem _ (List.mem_cons_self)) j
    have hw : Value.long (ρ3.2.2.2.1 64353 j) = Value.long (ρ.2.2.2.1 64353 j) := hw
    exact Value.long.inj hw
  obtain ⟨hAn, hAf⟩ := fiv_w (f := ρ.2.2.2.1 64321) (g := ρ3.2.2.2.1 64321) (m := 60) (d := (ρ.1 1308).toInt) (v0 := 0) (v1 := 0) (v2 := 0) (v3 := 0) (v4 := 0) (fun j => m6 (64321, .arg 64321, [(.int 64, .long 0), (.int 63, .long 0), (.int 62, .long 0), (.int 61, .long 0), (.int 60, .long 0)]) (List.mem_cons_self) j) (amw_60 d0 d4 (i := 0) (by decide)) (amw_60 d0 d4 (i := 1) (by decide)) (amw_60 d0 d4 (i := 2) (by decide)) (amw_60 d0 d4 (i := 3) (by decide)) (amw_60 d0 d4 (i := 4) (by decide))
  have h7 := k157.mp (hF.2 _ (List.mem_cons_of_mem _ (List.mem_cons_of_mem _ (List.mem_cons_of_mem _ (List.mem_cons_of_mem _ (List.mem_cons_self))))))
  have h5 := k155.mp (hF.2 _ (List.mem_cons_of_mem _ (List.mem_cons_of_mem _ (List.mem_cons_of_mem _ (List.mem_cons_of_mem _ (List.mem_cons_of_mem _ (List.mem_cons_self)))))))
  have eB : ρ3.2.2.2.1 64353 = ρ.2.2.2.1 64353 := funext hB
  have ev : ρ.2.1 60033 = ρ.2.2.2.1 64321 60 := of_decide_eq_true (hF.2 _ (List.mem_cons_of_mem _ (List.mem_cons_of_mem _ (List.mem_cons_of_mem _ (List.mem_cons_self)))))
  have hc : (100925505 : Int) = amcode (ρ.2.2.2.1 64321) 60 (ρ.2.1 60033).toInt.toNat := of_decide_eq_true (hF.2 _ (List.mem_cons_of_mem _ (List.mem_cons_of_mem _ (List.mem_cons_self))))
  rw [ev] at hc
  have x7 : sc X ρ3 (157, .add (.elem (.arg 64321) (.int 0)) (.add (.elem (.arg 64353) (.int 0)) (.arg 1308)), .int 3) = true := k157.mpr (by
    rw [eB, eD]
    exact amn_c (K := 2) (m := 60) (by decide) rfl h7 h5 (Or.inr ⟨by rw [← hc]; decide, fun j hj => by
    by_cases hi : 60 ≤ j ∧ j < 60 + 5
    · rw [if_pos hi]; exact hAf j hi.1 hi.2
    · rw [if_neg hi, hAn j hi]⟩))
  have x5 : sc X ρ3 (155, .elem (.arg 64353) (.int 0), .int 0) = true := k155.mpr (by rw [eB]; exact h5)
  have z1 : sc X ρ3 (6, .elem (.arg 64321) (.int 1), .long 0) = true := decide_eq_true (show ρ3.2.2.2.1 64321 1 = 0 by
    rw [hAn 1 (by decide)]
    exact of_decide_eq_true (hF.2 _ (List.mem_cons_of_mem _ (List.mem_cons_of_mem _ (List.mem_cons_of_mem _ (List.mem_cons_of_mem _ (List.mem_cons_of_mem _ (List.mem_cons_of_mem _ (List.mem_cons_self)))))))))
  have z2 : sc X ρ3 (6, .elem (.arg 64353) (.int 114), .long 0) = true := decide_eq_true (show ρ3.2.2.2.1 64353 114 = 0 by
    rw [hB]
    exact of_decide_eq_true (hF.2 _ (List.mem_cons_of_mem _ (List.mem_cons_of_mem _ (List.mem_cons_of_mem _ (List.mem_cons_of_mem _ (List.mem_cons_of_mem _ (List.mem_cons_of_mem _ (List.mem_cons_of_mem _ (List.mem_cons_self))))))))))
  have z3 : sc X ρ3 (6, .elem (.arg 64353) (.int 123), .long 0) = true := decide_eq_true (show ρ3.2.2.2.1 64353 123 = 0 by
    rw [hB]
    exact of_decide_eq_true (hF.2 _ (List.mem_cons_of_mem _ (List.mem_cons_of_mem _ (List.mem_cons_of_mem _ (List.mem_cons_of_mem _ (List.mem_cons_of_mem _ (List.mem_cons_of_mem _ (List.mem_cons_of_mem _ (List.mem_cons_of_mem _ (List.mem_cons_self)))))))))))
  exact t_mc3 hv ρ3 m1 ⟨m2.1, fcn (x7) (fcn (x5) (fcn (z1) (fcn (z2) (fcn (z3) (m2.2)))))⟩ m3 m4)))
noncomputable def q_mb2l : sCut := ((fr 0 95 19 [(0, tr 75), (1, .int 50), (2, .int 2), (3, .int 60)] [.arg 60033, .int 60, tr 42], [fr 0 93 70 [(0, tr 75)] [], fr 0 60 30 [(0, tr 39), (1, .int 1)] [], fBot], 11), (fr 0 297 64 [(0, tr 219), (1, .arg 1308)] [], [fr 0 300 36 [(0, tr 219), (1, .arg 1308)] [], fBot], 12), [zf98zzzb_76, zf98zzzb_77, ((139, .add (.elem (.arg 64321) (.int 0)) (.add (.int 60) (.arg 60033)), .int 100925506), true), zf98zzzb_86, zf98zzzb_87, zf98zzzb_12, zf98zzzb_13, zf98zzzb_14, zf98zzzb_15, ((0, .arg 2816, .int 1), true), zf98zzzb_0, zf98zzzb_1, zf98zzzb_2, zf98zzzb_3, zf98zzzb_4, ((0, .arg 1698, .int 0), true), ((0, .arg 1300, .int 0), true), ((0, .arg 1302, .int 0), true), ((0, .arg 1430, .int 0), true), ((0, .arg 1318, .int 0), true), ((0, .arg 3232, .int 0), true), ((0, .arg 2050, .int 0), true), ((0, .arg 3264, .int 0), true), ((0, .arg 3296, .int 0), true), ((0, .arg 3328, .int 0), true), ((0, .arg 3168, .int 0), true), ((0, .arg 1858, .int 0), true), ((0, .arg 1890, .int 0), true), ((0, .arg 1922, .int 0), true), ((0, .arg 3008, .int 0), true), ((0, .arg 1954, .int 0), true), ((0, .arg 1986, .int 0), true), ((0, .arg 2018, .int 0), true), zf98zzzb_5, ((0, .arg 1702, .int 0), true), ((0, .arg 3360, .int 0), true), ((0, .arg 1350, .int 0), true), ((0, .arg 1826, .int 0), true), zf98zzzb_6, zf98zzzb_7, zf98zzzb_8, zf98zzzb_9, ((0, .arg 1730, .int 0), true)], i_bz)
noncomputable def w_mb2l : List (sCut × List (Nat × sT) × List (Nat × sT × List (sT × sT))) := [(q_mc3T, [], [(64321, .arg 64321, [(.int 64, .long 0), (.int 63, .long 0), (.int 62, .long 0), (.int 61, .long 0), (.int 60, .long 0)]), (64353, .arg 64353, [])])]
theorem k_mb2l : cbody kR [(zWB, c_mcl)] (cpl1 zWB c_bn1 [q_mc3T]) (cpl2 zWB c_bn1 [q_mc3T]) (cleafB kR zWB c_bn1 w_mb2l) 700 false false q_mb2l.2.2.1 q_mb2l.2.2.2 (cst zWB c_bn1.2.2.1.1 q_mb2l.1) (cst zWB c_bn1.2.2.1.2 q_mb2l.2.1) = true := by decide +kernel
theorem t_mb2l {X : pX} {ρ0 : sR} (hv : vok X ρ0) : CUTOK X kR zWB c_bn1 13 ρ0 q_mb2l := CUTOK_AT (fun ρ k1 hF hI k4 => AT_of (q := q_mb2l) rfl rfl (SEM_runB kR_x kR_0 (Cs := [(zWB, c_mcl)]) (fun C hC => by rw [List.mem_singleton.mp hC]; exact s_mcl) c_bn1_f (Q := w_mb2l) hv 700 (b1 := false) (b2 := false) k_mb2l k1 hF hI k4 (fun p hp ρ3 m1 m2 m3 m4 m5 m6 => by
  rw [List.mem_singleton.mp hp] at m2 m3 m5 m6 ⊢
  have eD : ρ3.1 1308 = ρ.1 1308 := (m4.1 1308 (by decide) (by decide)).1.trans (k4.1 1308 (by decide) (by decide)).1.symm
  obtain ⟨d0, d4⟩ := d_r hF.1
  have hB : ∀ j, ρ3.2.2.2.1 64353 j = ρ.2.2.2.1 64353 j := fun j => by
    have hw := m6 (64353, .arg 64353, []) (List.mem_cons_of_mem _ (List.mem_cons_self)) j
    have hw : Value.long (ρ3.2.2.2.1 64353 j) = Value.long (ρ.2.2.2.1 64353 j) := hw
    exact Value.long.inj hw
  obtain ⟨hAn, hAf⟩ := fiv_w (f := ρ.2.2.2.1 64321) (g := ρ3.2.2.2.1 64321) (m := 60) (d := (ρ.1 1308).toInt) (v0 := 0) (v1 := 0) (v2 := 0) (v3 := 0) (v4 := 0) (fun j => m6 (64321, .arg 64321, [(.int 64, .long 0), (.int 63, .long 0), (.int 62, .long 0), (.int 61, .long 0), (.int 60, .long 0)]) (List.mem_cons_self) j) (amw_60 d0 d4 (i := 0) (by decide)) (amw_60 d0 d4 (i := 1) (by decide)) (amw_60 d0 d4 (i := 2) (by decide)) (amw_60 d0 d4 (i := 3) (by decide)) (amw_60 d0 d4 (i := 4) (by decide))
  have h7 := k157.mp (hF.2 _ (List.mem_cons_of_mem _ (List.mem_cons_of_mem _ (List.mem_cons_of_mem _ (List.mem_cons_of_mem _ (List.mem_cons_self))))))
  have h5 := k155.mp (hF.2 _ (List.mem_cons_of_mem _ (List.mem_cons_of_mem _ (List.mem_cons_of_mem _ (List.mem_cons_of_mem _ (List.mem_cons_of_mem _ (List.mem_cons_self)))))))
  have eB : ρ3.2.2.2.1 64353 = ρ.2.2.2.1 64353 := funext hB
  have ev : ρ.2.1 60033 = ρ.2.2.2.1 64321 60 := of_decide_eq_true (hF.2 _ (List.mem_cons_of_mem _ (List.mem_cons_of_mem _ (List.mem_cons_of_mem _ (List.mem_cons_self)))))
  have hc : (100925506 : Int) = amcode (ρ.2.2.2.1 64321) 60 (ρ.2.1 60033).toInt.toNat := of_decide_eq_true (hF.2 _ (List.mem_cons_of_mem _ (List.mem_cons_of_mem _ (List.mem_cons_self))))
  rw [ev] at hc
  have x7 : sc X ρ3 (157, .add (.elem (.arg 64321) (.int 0)) (.add (.elem (.arg 64353) (.int 0)) (.arg 1308)), .int 3) = true := k157.mpr (by
    rw [eB, eD]
    exact amn_c (K := 2) (m := 60) (by decide) rfl h7 h5 (Or.inr ⟨by rw [← hc]; decide, fun j hj => by
    by_cases hi : 60 ≤ j ∧ j < 60 + 5
    · rw [if_pos hi]; exact hAf j hi.1 hi.2
    · rw [if_neg hi, hAn j hi]⟩))
  have x5 : sc X ρ3 (155, .elem (.arg 64353) (.int 0), .int 0) = true := k155.mpr (by rw [eB]; exact h5)
  have z1 : sc X ρ3 (6, .elem (.arg 64321) (.int 1), .long 0) = true := decide_eq_true (show ρ3.2.2.2.1 64321 1 = 0 by
    rw [hAn 1 (by decide)]
    exact of_decide_eq_true (hF.2 _ (List.mem_cons_of_mem _ (List.mem_cons_of_mem _ (List.mem_cons_of_mem _ (List.mem_cons_of_mem _ (List.mem_cons_of_mem _ (List.mem_cons_of_mem _ (List.mem_cons_self)))))))))
  have z2 : sc X ρ3 (6, .elem (.arg 64353) (.int 114), .long 0) = true := decide_eq_true (show ρ3.2.2.2.1 64353 114 = 0 by
    rw [hB]
    exact of_decide_eq_true (hF.2 _ (List.mem_cons_of_mem _ (List.mem_cons_of_mem _ (List.mem_cons_of_mem _ (List.mem_cons_of_mem _ (List.mem_cons_of_mem _ (List.mem_cons_of_mem _ (List.mem_cons_of_mem _ (List.mem_cons_self))))))))))
  have z3 : sc X ρ3 (6, .elem (.arg 64353) (.int 123), .long 0) = true := decide_eq_true (show ρ3.2.2.2.1 64353 123 = 0 by
    rw [hB]
    exact of_decide_eq_true (hF.2 _ (List.mem_cons_of_mem _ (List.mem_cons_of_mem _ (List.mem_cons_of_mem _ (List.mem_cons_of_mem _ (List.mem_cons_of_mem _ (List.mem_cons_of_mem _ (List.mem_cons_of_mem _ (List.mem_cons_of_mem _ (List.mem_cons_self)))))))))))
  exact t_mc3 hv ρ3 m1 ⟨m2.1, fcn (x7) (fcn (x5) (fcn (z1) (fcn (z2) (fcn (z3) (m2.2)))))⟩ m3 m4)))
theorem t_mb2 {X : pX} {ρ0 : sR} (hv : vok X ρ0) : CUTOK X kR zWB c_bn1 13 ρ0 q_mb2 := fun ρ k1 hF hI k4 => by
  have h5 := k155.mp (hF.2 _ (List.mem_cons_of_mem _ (List.mem_cons_of_mem _ (List.mem_cons_self))))
  have h7 := (k157.mp (hF.2 _ (List.mem_cons_of_mem _ (List.mem_cons_self))) 60 (by decide)).resolve_left (by decide)
  have eA : (ρ.2.2.2.1 64321 60).toInt = (ρ.2.2.2.1 64353 60).toInt := h7.trans (amn_i (K := 2) (m := 60) (by decide) (by decide) rfl (by decide) (by decide))
  obtain ⟨v0, v4⟩ := ev_m4 (m := 60) (by decide) (h5 60 (by decide))
  rw [← eA] at v0 v4
  have ev : ρ.2.1 60033 = ρ.2.2.2.1 64321 60 := of_decide_eq_true (hF.2 _ (List.mem_cons_self))
  rw [← ev] at v0 v4
  rcases am_3 (g := ρ.2.2.2.1 64321) (m := 60) (n := (ρ.2.1 60033).toInt.toNat) with h | h | h
  · exact t_mb2o hv ρ k1 ⟨hF.1, fcn (dl_lf (x := ρ.2.1 60033) (y := 0) (show (0 : Int) ≤ _ from v0)) (fcn (dl_lf (x := 4) (y := ρ.2.1 60033) (show _ ≤ (4 : Int) from v4)) (fcn (decide_eq_true (show (0 : Int) = amcode (ρ.2.2.2.1 64321) 60 (ρ.2.1 60033).toInt.toNat from h.symm)) (hF.2)))⟩ hI k4
  · exact t_mb2n hv ρ k1 ⟨hF.1, fcn (dl_lf (x := ρ.2.1 60033) (y := 0) (show (0 : Int) ≤ _ from v0)) (fcn (dl_lf (x := 4) (y := ρ.2.1 60033) (show _ ≤ (4 : Int) from v4)) (fcn (decide_eq_true (show (100925505 : Int) = amcode (ρ.2.2.2.1 64321) 60 (ρ.2.1 60033).toInt.toNat from h.symm)) (hF.2)))⟩ hI k4
  · exact t_mb2l hv ρ k1 ⟨hF.1, fcn (dl_lf (x := ρ.2.1 60033) (y := 0) (show (0 : Int) ≤ _ from v0)) (fcn (dl_lf (x := 4) (y := ρ.2.1 60033) (show _ ≤ (4 : Int) from v4)) (fcn (decide_eq_true (show (100925506 : Int) = amcode (ρ.2.2.2.1 64321) 60 (ρ.2.1 60033).toInt.toNat from h.symm)) (hF.2)))⟩ hI k4
noncomputable def q_mc2 : sCut := ((fr 0 95 34 [(0, tr 75), (1, .int 50), (2, .int 1)] [], [fr 0 93 70 [(0, tr 75)] [], fr 0 60 30 [(0, tr 39), (1, .int 1)] [], fBot], 11), (fr 0 297 64 [(0, tr 219), (1, .arg 1308)] [], [fr 0 300 36 [(0, tr 219), (1, .arg 1308)] [], fBot], 12), [zf98zzzb_87, zf98zzzb_12, zf98zzzb_13, zf98zzzb_14, zf98zzzb_15, ((0, .arg 2816, .int 1), true), zf98zzzb_0, zf98zzzb_1, zf98zzzb_2, zf98zzzb_3, zf98zzzb_4, ((0, .arg 1698, .int 0), true), ((0, .arg 1300, .int 0), true), ((0, .arg 1302, .int 0), true), ((0, .arg 1430, .int 0), true), ((0, .arg 1318, .int 0), true), ((0, .arg 3232, .int 0), true), ((0, .arg 2050, .int 0), true), ((0, .arg 3264, .int 0), true), ((0, .arg 3296, .int 0), true), ((0, .arg 3328, .int 0), true), ((0, .arg 3168, .int 0), true), ((0, .arg 1858, .int 0), true), ((0, .arg 1890, .int 0), true), ((0, .arg 1922, .int 0), true), ((0, .arg 3008, .int 0), true), ((0, .arg 1954, .int 0), true), ((0, .arg 1986, .int 0), true), ((0, .arg 2018, .int 0), true), zf98zzzb_5, ((0, .arg 1702, .int 0), true), ((0, .arg 3360, .int 0), true), ((0, .arg 1350, .int 0), true), ((0, .arg 1826, .int 0), true), zf98zzzb_6, zf98zzzb_7, zf98zzzb_8, zf98zzzb_9, ((0, .arg 1730, .int 0), true)], i_bz)
theorem k_mc2 : cbody kR [] (cpl1 zWB c_bn1 [q_mb2]) (cpl2 zWB c_bn1 [q_mb2]) (cleaf kR zWB c_bn1 [q_mb2]) 60 true false q_mc2.2.2.1 q_mc2.2.2.2 (cst zWB c_bn1.2.2.1.1 q_mc2.1) (cst zWB c_bn1.2.2.1.2 q_mc2.2.1) = true := by decide +kernel
theorem t_mc2 {X : pX} {ρ0 : sR} (hv : vok X ρ0) : CUTOK X kR zWB c_bn1 13 ρ0 q_mc2 := CUT_run kR_x kR_0 (Cs := []) (fun C hC => by cases hC) c_bn1_f (Q := [q_mb2]) hv (fun q hq => by
    simp only [List.mem_cons, List.not_mem_nil, or_false] at hq
    rw [hq]; exact t_mb2 hv) 60 (b1 := true) (b2 := false) k_mc2
noncomputable def zf98zzzb_88 : sQ × Bool := ((6, .arg 60033, .elem (.arg 64321) (.int 55)), true)
noncomputable def zf98zzzb_89 : sQ × Bool := ((157, .add (.elem (.arg 64321) (.int 0)) (.add (.elem (.arg 64353) (.int 0)) (.arg 1308)), .int 1), true)
noncomputable def q_mb1 : sCut := ((fr 0 95 19 [(0, tr 75), (1, .int 50), (2, .int 1), (3, .int 55)] [.arg 60033, .int 55, tr 42], [fr 0 93 70 [(0, tr 75)] [], fr 0 60 30 [(0, tr 39), (1, .int 1)] [], fBot], 11), (fr 0 297 64 [(0, tr 219), (1, .arg 1308)] [], [fr 0 300 36 [(0, tr 219), (1, .arg 1308)] [], fBot], 12), [zf98zzzb_88, zf98zzzb_89, zf98zzzb_12, zf98zzzb_13, zf98zzzb_14, zf98zzzb_15, ((0, .arg 2816, .int 1), true), zf98zzzb_0, zf98zzzb_1, zf98zzzb_2, zf98zzzb_3, zf98zzzb_4, ((0, .arg 1698, .int 0), true), ((0, .arg 1300, .int 0), true), ((0, .arg 1302, .int 0), true), ((0, .arg 1430, .int 0), true), ((0, .arg 1318, .int 0), true), ((0, .arg 3232, .int 0), true), ((0, .arg 2050, .int 0), true), ((0, .arg 3264, .int 0), true), ((0, .arg 3296, .int 0), true), ((0, .arg 3328, .int 0), true), ((0, .arg 3168, .int 0), true), ((0, .arg 1858, .int 0), true), ((0, .arg 1890, .int 0), true), ((0, .arg 1922, .int 0), true), ((0, .arg 3008, .int 0), true), ((0, .arg 1954, .int 0), true), ((0, .arg 1986, .int 0), true), ((0, .arg 2018, .int 0), true), zf98zzzb_5, ((0, .arg 1702, .int 0), true), ((0, .arg 3360, .int 0), true), ((0, .arg 1350, .int 0), true), ((0, .arg 1826, .int 0), true), zf98zzzb_6, zf98zzzb_7, zf98zzzb_8, zf98zzzb_9, ((0, .arg 1730, .int 0), true)], i_bz)
noncomputable def q_mb1o : sCut := ((fr 0 95 19 [(0, tr 75), (1, .int 50), (2, .int 1), (3, .int 55)] [.arg 60033, .int 55, tr 42], [fr 0 93 70 [(0, tr 75)] [], fr 0 60 30 [(0, tr 39), (1, .int 1)] [], fBot], 11), (fr 0 297 64 [(0, tr 219), (1, .arg 1308)] [], [fr 0 300 36 [(0, tr 219), (1, .arg 1308)] [], fBot], 12), [zf98zzzb_76, zf98zzzb_77, ((139, .add (.elem (.arg 64321) (.int 0)) (.add (.int 55) (.arg 60033)), .int 0), true), zf98zzzb_88, zf98zzzb_89, zf98zzzb_12, zf98zzzb_13, zf98zzzb_14, zf98zzzb_15, ((0, .arg 2816, .int 1), true), zf98zzzb_0, zf98zzzb_1, zf98zzzb_2, zf98zzzb_3, zf98zzzb_4, ((0, .arg 1698, .int 0), true), ((0, .arg 1300, .int 0), true), ((0, .arg 1302, .int 0), true), ((0, .arg 1430, .int 0), true), ((0, .arg 1318, .int 0), true), ((0, .arg 3232, .int 0), true), ((0, .arg 2050, .int 0), true), ((0, .arg 3264, .int 0), true), ((0, .arg 3296, .int 0), true), ((0, .arg 3328, .int 0), true), ((0, .arg 3168, .int 0), true), ((0, .arg 1858, .int 0), true), ((0, .arg 1890, .int 0), true), ((0, .arg 1922, .int 0), true), ((0, .arg 3008, .int 0), true), ((0, .arg 1954, .int 0), true), ((0, .arg 1986, .int 0), true), ((0, .arg 2018, .int 0), true), zf98zzzb_5, ((0, .arg 1702, .int 0), true), ((0, .arg 3360, .int 0), true), ((0, .arg 1350, .int 0), true), ((0, .arg 1826, .int 0), true), zf98zzzb_6, zf98zzzb_7, zf98zzzb_8, zf98zzzb_9, ((0, .arg 1730, .int 0), true)], i_bz)
noncomputable def w_mb1o : List (sCut × List (Nat × sT) × List (Nat × sT × List (sT × sT))) := [(q_mc2T, [], [(64321, .arg 64321, []), (64353, .arg 64353, [])])]
theorem k_mb1o : cbody kR [(zWB, c_mco)] (cpl1 zWB c_bn1 [q_mc2T]) (cpl2 zWB c_bn1 [q_mc2T]) (cleafB kR zWB c_bn1 w_mb1o) 700 false false q_mb1o.2.2.1 q_mb1o.2.2.2 (cst zWB c_bn1.2.2.1.1 q_mb1o.1) (cst zWB c_bn1.2.2.1.2 q_mb1o.2.1) = true := by decide +kernel
theorem t_mb1o {X : pX} {ρ0 : sR} (hv : vok X ρ0) : CUTOK X kR zWB c_bn1 13 ρ0 q_mb1o := CUTOK_AT (fun ρ k1 hF hI k4 => AT_of (q := q_mb1o) rfl rfl (SEM_runB kR_x kR_0 (Cs := [(zWB, c_mco)]) (fun C hC => by rw [List.mem_singleton.mp hC]; exact s_mco) c_bn1_f (Q := w_mb1o) hv 700 (b1 := false) (b2 := false) k_mb1o k1 hF hI k4 (fun p hp ρ3 m1 m2 m3 m4 m5 m6 => by
  rw [List.mem_singleton.mp hp] at m2 m3 m5 m6 ⊢
  have eD : ρ3.1 1308 = ρ.1 1308 := (m4.1 1308 (by decide) (by decide)).1.trans (k4.1 1308 (by decide) (by decide)).1.symm
  obtain ⟨d0, d4⟩ := d_r hF.1
  have hB : ∀ j, ρ3.2.2.2.1 64353 j = ρ.2.2.2.1 64353 j := fun j => by
    have hw := m6 (64353, .arg 64353, []) (List.mem_cons_of_mem _ (List.mem_cons_self)) j
    have hw : Value.long (ρ3.2.2.2.1 64353 j) = Value.long (ρ.2.2.2.1 64353 j) := hw
    exact Value.long.inj hw
  have hA : ∀ j, ρ3.2.2.2.1 64321 j = ρ.2.2.2.1 64321 j := fun j => by
    have hw := m6 (64321, .arg 64321, []) (List.mem_cons_self) j
    have hw : Value.long (ρ3.2.2.2.1 64321 j) = Value.long (ρ.2.2.2.1 64321 j) := hw
    exact Value.long.inj hw
  have h7 := k157.mp (hF.2 _ (List.mem_cons_of_mem _ (List.mem_cons_of_mem _ (List.mem_cons_of_mem _ (List.mem_cons_of_mem _ (List.mem_cons_self))))))
  have h5 := k155.mp (hF.2 _ (List.mem_cons_of_mem _ (List.mem_cons_of_mem _ (List.mem_cons_of_mem _ (List.mem_cons_of_mem _ (List.mem_cons_of_mem _ (List.mem_cons_self)))))))
  have eB : ρ3.2.2.2.1 64353 = ρ.2.2.2.1 64353 := funext hB
  have ev : ρ.2.1 60033 = ρ.2.2.2.1 64321 55 := of_decide_eq_true (hF.2 _ (List.mem_cons_of_mem _ (List.mem_cons_of_mem _ (List.mem_cons_of_mem _ (List.mem_cons_self)))))
  have hc : (0 : Int) = amcode (ρ.2.2.2.1 64321) 55 (ρ.2.1 60033).toInt.toNat := of_decide_eq_true (hF.2 _ (List.mem_cons_of_mem _ (List.mem_cons_of_mem _ (List.mem_cons_self))))
  rw [ev] at hc
  have x7 : sc X ρ3 (157, .add (.elem (.arg 64321) (.int 0)) (.add (.elem (.arg 64353) (.int 0)) (.arg 1308)), .int 2) = true := k157.mpr (by
    rw [eB, eD]
    exact amn_c (K := 1) (m := 55) (by decide) rfl h7 h5 (Or.inl ⟨hc.symm, fun j _ => hA j⟩))
  have x5 : sc X ρ3 (155, .elem (.arg 64353) (.int 0), .int 0) = true := k155.mpr (by rw [eB]; exact h5)
  have z1 : sc X ρ3 (6, .elem (.arg 64321) (.int 1), .long 0) = true := decide_eq_true (show ρ3.2.2.2.1 64321 1 = 0 by
    rw [hA]
    exact of_decide_eq_true (hF.2 _ (List.mem_cons_of_mem _ (List.mem_cons_of_mem _ (List.mem_cons_of_mem _ (List.mem_cons_of_mem _ (List.mem_cons_of_mem _ (List.mem_cons_of_mem _ (List.mem_cons_self)))))))))
  have z2 : sc X ρ3 (6, .elem (.arg 64353) (.int 114), .long 0) = true := decide_eq_true (show ρ3.2.2.2.1 64353 114 = 0 by
    rw [hB]
    exact of_decide_eq_true (hF.2 _ (List.mem_cons_of_mem _ (List.mem_cons_of_mem _ (List.mem_cons_of_mem _ (List.mem_cons_of_mem _ (List.mem_cons_of_mem _ (List.mem_cons_of_mem _ (List.mem_cons_of_mem _ (List.mem_cons_self))))))))))
  have z3 : sc X ρ3 (6, .elem (.arg 64353) (.int 123), .long 0) = true := decide_eq_true (show ρ3.2.2.2.1 64353 123 = 0 by
    rw [hB]
    exact of_decide_eq_true (hF.2 _ (List.mem_cons_of_mem _ (List.mem_cons_of_mem _ (List.mem_cons_of_mem _ (List.mem_cons_of_mem _ (List.mem_cons_of_mem _ (List.mem_cons_of_mem _ (List.mem_cons_of_mem _ (List.mem_cons_of_mem _ (List.mem_cons_self)))))))))))
  exact t_mc2 hv ρ3 m1 ⟨m2.1, fcn (x7) (fcn (x5) (fcn (z1) (fcn (z2) (fcn (z3) (m2.2)))))⟩ m3 m4)))
noncomputable def q_mb1n : sCut := ((fr 0 95 19 [(0, tr 75), (1, .int 50), (2, .int 1), (3, .int 55)] [.arg 60033, .int 55, tr 42], [fr 0 93 70 [(0, tr 75)] [], fr 0 60 30 [(0, tr 39), (1, .int 1)] [], fBot], 11), (fr 0 297 64 [(0, tr 219), (1, .arg 1308)] [], [fr 0 300 36 [(0, tr 219), (1, .arg 1308)] [], fBot], 12), [zf98zzzb_76, zf98zzzb_77, ((139, .add (.elem (.arg 64321) (.int 0)) (.add (.int 55) (.arg 60033)), .int 100925505), true), zf98zzzb_88, zf98zzzb_89, zf98zzzb_12, zf98zzzb_13, zf98zzzb_14, zf98zzzb_15, ((0, .arg 2816, .int 1), true), zf98zzzb_0, zf98zzzb_1, zf98zzzb_2, zf98zzzb_3, zf98zzzb_4, ((0, .arg 1698, .int 0), true), ((0, .arg 1300, .int 0), true), ((0, .arg 1302, .int 0), true), ((0, .arg 1430, .int 0), true), ((0, .arg 1318, .int 0), true), ((0, .arg 3232, .int 0), true), ((0, .arg 2050, .int 0), true), ((0, .arg 3264, .int 0), true), ((0, .arg 3296, .int 0), true), ((0, .arg 3328, .int 0), true), ((0, .arg 3168, .int 0), true), ((0, .arg 1858, .int 0), true), ((0, .arg 1890, .int 0), true), ((0, .arg 1922, .int 0), true), ((0, .arg 3008, .int 0), true), ((0, .arg 1954, .int 0), true), ((0, .arg 1986, .int 0), true), ((0, .arg 2018, .int 0), true), zf98zzzb_5, ((0, .arg 1702, .int 0), true), ((0, .arg 3360, .int 0), true), ((0, .arg 1350, .int 0), true), ((0, .arg 1826, .int 0), true), zf98zzzb_6, zf98zzzb_7, zf98zzzb_8, zf98zzzb_9, ((0, .arg 1730, .int 0), true)], i_bz)
noncomputable def w_mb1n : List (sCut × List (Nat × sT) × List (Nat × sT × List (sT × sT))) := [(q_mc2T, [], [(64321, .arg 64321, [(.int 59, .long 0), (.int 58, .long 0), (.int 57, .long 0), (.int 56, .long 0), (.int 55, .long 0)]), (64353, .arg 64353, [])])]
theorem k_mb1n : cbody kR [(zWB, c_mcn)] (cpl1 zWB c_bn1 [q_mc2T]) (cpl2 zWB c_bn1 [q_mc2T]) (cleafB kR zWB c_bn1 w_mb1n) 700 false false q_mb1n.2.2.1 q_mb1n.2.2.2 (cst zWB c_bn1.2.2.1.1 q_mb1n.1) (cst zWB c_bn1.2.2.1.2 q_mb1n.2.1) = true := by decide +kernel
theorem t_mb1n {X : pX} {ρ0 : sR} (hv : vok X ρ0) : CUTOK X kR zWB c_bn1 13 ρ0 q_mb1n := CUTOK_AT (fun ρ k1 hF hI k4 => AT_of (q := q_mb1n) rfl rfl (SEM_runB kR_x kR_0 (Cs := [(zWB, c_mcn)]) (fun C hC => by rw [List.mem_singleton.mp hC]; exact s_mcn) c_bn1_f (Q := w_mb1n) hv 700 (b1 := false) (b2 := false) k_mb1n k1 hF hI k4 (fun p hp ρ3 m1 m2 m3 m4 m5 m6 => by
  rw [List.mem_singleton.mp hp] at m2 m3 m5 m6 ⊢
  have eD : ρ3.1 1308 = ρ.1 1308 := (m4.1 1308 (by decide) (by decide)).1.trans (k4.1 1308 (by decide) (by decide)).1.symm
  obtain ⟨d0, d4⟩ := d_r hF.1
  have hB : ∀ j, ρ3.2.2.2.1 64353 j = ρ.2.2.2.1 64353 j := fun j => by
    have hw := m6 (64353, .arg 64353, []) (List.mem_cons_of_mem _ (List.mem_cons_self)) j
    have hw : Value.long (ρ3.2.2.2.1 64353 j) = Value.long (ρ.2.2.2.1 64353 j) := hw
    exact Value.long.inj hw
  obtain ⟨hAn, hAf⟩ := fiv_w (f := ρ.2.2.2.1 64321) (g := ρ3.2.2.2.1 64321) (m := 55) (d := (ρ.1 1308).toInt) (v0 := 0) (v1 := 0) (v2 := 0) (v3 := 0) (v4 := 0) (fun j => m6 (64321, .arg 64321, [(.int 59, .long 0), (.int 58, .long 0), (.int 57, .long 0), (.int 56, .long 0), (.int 55, .long 0)]) (List.mem_cons_self) j) (amw_55 d0 d4 (i := 0) (by decide)) (amw_55 d0 d4 (i := 1) (by decide)) (amw_55 d0 d4 (i := 2) (by decide)) (amw_55 d0 d4 (i := 3) (by decide)) (amw_55 d0 d4 (i := 4) (by decide))
  have h7 := k157.mp (hF.2 _ (List.mem_cons_of_mem _ (List.mem_cons_of_mem _ (List.mem_cons_of_mem _ (List.mem_cons_of_mem _ (List.mem_cons_self))))))
  have h5 := k155.mp (hF.2 _ (List.mem_cons_of_mem _ (List.mem_cons_of_mem _ (List.mem_cons_of_mem _ (List.mem_cons_of_mem _ (List.mem_cons_of_mem _ (List.mem_cons_self)))))))
  have eB : ρ3.2.2.2.1 64353 = ρ.2.2.2.1 64353 := funext hB
  have ev : ρ.2.1 60033 = ρ.2.2.2.1 64321 55 := of_decide_eq_true (hF.2 _ (List.mem_cons_of_mem _ (List.mem_cons_of_mem _ (List.mem_cons_of_mem _ (List.mem_cons_self)))))
  have hc : (100925505 : Int) = amcode (ρ.2.2.2.1 64321) 55 (ρ.2.1 60033).toInt.toNat := of_decide_eq_true (hF.2 _ (List.mem_cons_of_mem _ (List.mem_cons_of_mem _ (List.mem_cons_self))))
  rw [ev] at hc
  have x7 : sc X ρ3 (157, .add (.elem (.arg 64321) (.int 0)) (.add (.elem (.arg 64353) (.int 0)) (.arg 1308)), .int 2) = true := k157.mpr (by
    rw [eB, eD]
    exact amn_c (K := 1) (m := 55) (by decide) rfl h7 h5 (Or.inr ⟨by rw [← hc]; decide, fun j hj => by
    by_cases hi : 55 ≤ j ∧ j < 55 + 5
    · rw [if_pos hi]; exact hAf j hi.1 hi.2
    · rw [if_neg hi, hAn j hi]⟩))
  have x5 : sc X ρ3 (155, .elem (.arg 64353) (.int 0), .int 0) = true := k155.mpr (by rw [eB]; exact h5)
  have z1 : sc X ρ3 (6, .elem (.arg 64321) (.int 1), .long 0) = true := decide_eq_true (show ρ3.2.2.2.1 64321 1 = 0 by
    rw [hAn 1 (by decide)]
    exact of_decide_eq_true (hF.2 _ (List.mem_cons_of_mem _ (List.mem_cons_of_mem _ (List.mem_cons_of_mem _ (List.mem_cons_of_mem _ (List.mem_cons_of_mem _ (List.mem_cons_of_mem _ (List.mem_cons_self)))))))))
  have z2 : sc X ρ3 (6, .elem (.arg 64353) (.int 114), .long 0) = true := decide_eq_true (show ρ3.2.2.2.1 64353 114 = 0 by
    rw [hB]
    exact of_decide_eq_true (hF.2 _ (List.mem_cons_of_mem _ (List.mem_cons_of_mem _ (List.mem_cons_of_mem _ (List.mem_cons_of_mem _ (List.mem_cons_of_mem _ (List.mem_cons_of_mem _ (List.mem_cons_of_mem _ (List.mem_cons_self))))))))))
  have z3 : sc X ρ3 (6, .elem (.arg 64353) (.int 123), .long 0) = true := decide_eq_true (show ρ3.2.2.2.1 64353 123 = 0 by
    rw [hB]
    exact of_decide_eq_true (hF.2 _ (List.mem_cons_of_mem _ (List.mem_cons_of_mem _ (List.mem_cons_of_mem _ (List.mem_cons_of_mem _ (List.mem_cons_of_mem _ (List.mem_cons_of_mem _ (List.mem_cons_of_mem _ (List.mem_cons_of_mem _ (List.mem_cons_self)))))))))))
  exact t_mc2 hv ρ3 m1 ⟨m2.1, fcn (x7) (fcn (x5) (fcn (z1) (fcn (z2) (fcn (z3) (m2.2)))))⟩ m3 m4)))
noncomputable def q_mb1l : sCut := ((fr 0 95 19 [(0, tr 75), (1, .int 50), (2, .int 1), (3, .int 55)] [.arg 60033, .int 55, tr 42], [fr 0 93 70 [(0, tr 75)] [], fr 0 60 30 [(0, tr 39), (1, .int 1)] [], fBot], 11), (fr 0 297 64 [(0, tr 219), (1, .arg 1308)] [], [fr 0 300 36 [(0, tr 219), (1, .arg 1308)] [], fBot], 12), [zf98zzzb_76, zf98zzzb_77, ((139, .add (.elem (.arg 64321) (.int 0)) (.add (.int 55) (.arg 60033)), .int 100925506), true), zf98zzzb_88, zf98zzzb_89, zf98zzzb_12, zf98zzzb_13, zf98zzzb_14, zf98zzzb_15, ((0, .arg 2816, .int 1), true), zf98zzzb_0, zf98zzzb_1, zf98zzzb_2, zf98zzzb_3, zf98zzzb_4, ((0, .arg 1698, .int 0), true), ((0, .arg 1300, .int 0), true), ((0, .arg 1302, .int 0), true), ((0, .arg 1430, .int 0), true), ((0, .arg 1318, .int 0), true), ((0, .arg 3232, .int 0), true), ((0, .arg 2050, .int 0), true), ((0, .arg 3264, .int 0), true), ((0, .arg 3296, .int 0), true), ((0, .arg 3328, .int 0), true), ((0, .arg 3168, .int 0), true), ((0, .arg 1858, .int 0), true), ((0, .arg 1890, .int 0), true), ((0, .arg 1922, .int 0), true), ((0, .arg 3008, .int 0), true), ((0, .arg 1954, .int 0), true), ((0, .arg 1986, .int 0), true), ((0, .arg 2018, .int 0), true), zf98zzzb_5, ((0, .arg 1702, .int 0), true), ((0, .arg 3360, .int 0), true), ((0, .arg 1350, .int 0), true), ((0, .arg 1826, .int 0), true), zf98zzzb_6, zf98zzzb_7, zf98zzzb_8, zf98zzzb_9, ((0, .arg 1730, .int 0), true)], i_bz)
noncomputable def w_mb1l : List (sCut × List (Nat × sT) × List (Nat × sT × List (sT × sT))) := [(q_mc2T, [], [(64321, .arg 64321, [(.int 59, .long 0), (.int 58, .long 0), (.int 57, .long 0), (.int 56, .long 0), (.int 55, .long 0)]), (64353, .arg 64353, [])])]
theorem k_mb1l : cbody kR [(zWB, c_mcl)] (cpl1 zWB c_bn1 [q_mc2T]) (cpl2 zWB c_bn1 [q_mc2T]) (cleafB kR zWB c_bn1 w_mb1l) 700 false false q_mb1l.2.2.1 q_mb1l.2.2.2 (cst zWB c_bn1.2.2.1.1 q_mb1l.1) (cst zWB c_bn1.2.2.1.2 q_mb1l.2.1) = true := by decide +kernel
theorem t_mb1l {X : pX} {ρ0 : sR} (hv : vok X ρ0) : CUTOK X kR zWB c_bn1 13 ρ0 q_mb1l := CUTOK_AT (fun ρ k1 hF hI k4 => AT_of (q := q_mb1l) rfl rfl (SEM_runB kR_x kR_0 (Cs := [(zWB, c_mcl)]) (fun C hC => by rw [List.mem_singleton.mp hC]; exact s_mcl) c_bn1_f (Q := w_mb1l) hv 700 (b1 := false) (b2 := false) k_mb1l k1 hF hI k4 (fun p hp ρ3 m1 m2 m3 m4 m5 m6 => by
  rw [List.mem_singleton.mp hp] at m2 m3 m5 m6 ⊢
  have eD : ρ3.1 1308 = ρ.1 1308 := (m4.1 1308 (by decide) (by decide)).1.trans (k4.1 1308 (by decide) (by decide)).1.symm
  obtain ⟨d0, d4⟩ := d_r hF.1
  have hB : ∀ j, ρ3.2.2.2.1 64353 j = ρ.2.2.2.1 64353 j := fun j => by
    have hw := m6 (64353, .arg 64353, []) (List.mem_cons_of_mem _ (List.mem_cons_self)) j
    have hw : Value.long (ρ3.2.2.2.1 64353 j) = Value.long (ρ.2.2.2.1 64353 j) := hw
    exact Value.long.inj hw
  obtain ⟨hAn, hAf⟩ := fiv_w (f := ρ.2.2.2.1 64321) (g := ρ3.2.2.2.1 64321) (m := 55) (d := (ρ.1 1308).toInt) (v0 := 0) (v1 := 0) (v2 := 0) (v3 := 0) (v4 := 0) (fun j => m6 (64321, .arg 64321, [(.int 59, .long 0), (.int 58, .long 0), (.int 57, .long 0), (.int 56, .long 0), (.int 55, .long 0)]) (List.mem_cons_self) j) (amw_55 d0 d4 (i := 0) (by decide)) (amw_55 d0 d4 (i := 1) (by decide)) (amw_55 d0 d4 (i := 2) (by decide)) (amw_55 d0 d4 (i := 3) (by decide)) (amw_55 d0 d4 (i := 4) (by decide))
  have h7 := k157.mp (hF.2 _ (List.mem_cons_of_mem _ (List.mem_cons_of_mem _ (List.mem_cons_of_mem _ (List.mem_cons_of_mem _ (List.mem_cons_self))))))
  have h5 := k155.mp (hF.2 _ (List.mem_cons_of_mem _ (List.mem_cons_of_mem _ (List.mem_cons_of_mem _ (List.mem_cons_of_mem _ (List.mem_cons_of_mem _ (List.mem_cons_self)))))))
  have eB : ρ3.2.2.2.1 64353 = ρ.2.2.2.1 64353 := funext hB
  have ev : ρ.2.1 60033 = ρ.2.2.2.1 64321 55 := of_decide_eq_true (hF.2 _ (List.mem_cons_of_mem _ (List.mem_cons_of_mem _ (List.mem_cons_of_mem _ (List.mem_cons_self)))))
  have hc : (100925506 : Int) = amcode (ρ.2.2.2.1 64321) 55 (ρ.2.1 60033).toInt.toNat := of_decide_eq_true (hF.2 _ (List.mem_cons_of_mem _ (List.mem_cons_of_mem _ (List.mem_cons_self))))
  rw [ev] at hc
  have x7 : sc X ρ3 (157, .add (.elem (.arg 64321) (.int 0)) (.add (.elem (.arg 64353) (.int 0)) (.arg 1308)), .int 2) = true := k157.mpr (by
    rw [eB, eD]
    exact amn_c (K := 1) (m := 55) (by decide) rfl h7 h5 (Or.inr ⟨by rw [← hc]; decide, fun j hj => by
    by_cases hi : 55 ≤ j ∧ j < 55 + 5
    · rw [if_pos hi]; exact hAf j hi.1 hi.2
    · rw [if_neg hi, hAn j hi]⟩))
  have x5 : sc X ρ3 (155, .elem (.arg 64353) (.int 0), .int 0) = true := k155.mpr (by rw [eB]; exact h5)
  have z1 : sc X ρ3 (6, .elem (.arg 64321) (.int 1), .long 0) = true := decide_eq_true (show ρ3.2.2.2.1 64321 1 = 0 by
    rw [hAn 1 (by decide)]
    exact of_decide_eq_true (hF.2 _ (List.mem_cons_of_mem _ (List.mem_cons_of_mem _ (List.mem_cons_of_mem _ (List.mem_cons_of_mem _ (List.mem_cons_of_mem _ (List.mem_cons_of_mem _ (List.mem_cons_self)))))))))
  have z2 : sc X ρ3 (6, .elem (.arg 64353) (.int 114), .long 0) = true := decide_eq_true (show ρ3.2.2.2.1 64353 114 = 0 by
    rw [hB]
    exact of_decide_eq_true (hF.2 _ (List.mem_cons_of_mem _ (List.mem_cons_of_mem _ (List.mem_cons_of_mem _ (List.mem_cons_of_mem _ (List.mem_cons_of_mem _ (List.mem_cons_of_mem _ (List.mem_cons_of_mem _ (List.mem_cons_self))))))))))
  have z3 : sc X ρ3 (6, .elem (.arg 64353) (.int 123), .long 0) = true := decide_eq_true (show ρ3.2.2.2.1 64353 123 = 0 by
    rw [hB]
    exact of_decide_eq_true (hF.2 _ (List.mem_cons_of_mem _ (List.mem_cons_of_mem _ (List.mem_cons_of_mem _ (List.mem_cons_of_mem _ (List.mem_cons_of_mem _ (List.mem_cons_of_mem _ (List.mem_cons_of_mem _ (List.mem_cons_of_mem _ (List.mem_cons_self)))))))))))
  exact t_mc2 hv ρ3 m1 ⟨m2.1, fcn (x7) (fcn (x5) (fcn (z1) (fcn (z2) (fcn (z3) (m2.2)))))⟩ m3 m4)))
theorem t_mb1 {X : pX} {ρ0 : sR} (hv : vok X ρ0) : CUTOK X kR zWB c_bn1 13 ρ0 q_mb1 := fun ρ k1 hF hI k4 => by
  have h5 := k155.mp (hF.2 _ (List.mem_cons_of_mem _ (List.mem_cons_of_mem _ (List.mem_cons_self))))
  have h7 := (k157.mp (hF.2 _ (List.mem_cons_of_mem _ (List.mem_cons_self))) 55 (by decide)).resolve_left (by decide)
  have eA : (ρ.2.2.2.1 64321 55).toInt = (ρ.2.2.2.1 64353 55).toInt := h7.trans (amn_i (K := 1) (m := 55) (by decide) (by decide) rfl (by decide) (by decide))
  obtain ⟨v0, v4⟩ := ev_m4 (m := 55) (by decide) (h5 55 (by decide))
  rw [← eA] at v0 v4
  have ev : ρ.2.1 60033 = ρ.2.2.2.1 64321 55 := of_decide_eq_true (hF.2 _ (List.mem_cons_self))
  rw [← ev] at v0 v4
  rcases am_3 (g := ρ.2.2.2.1 64321) (m := 55) (n := (ρ.2.1 60033).toInt.toNat) with h | h | h
  · exact t_mb1o hv ρ k1 ⟨hF.1, fcn (dl_lf (x := ρ.2.1 60033) (y := 0) (show (0 : Int) ≤ _ from v0)) (fcn (dl_lf (x := 4) (y := ρ.2.1 60033) (show _ ≤ (4 : Int) from v4)) (fcn (decide_eq_true (show (0 : Int) = amcode (ρ.2.2.2.1 64321) 55 (ρ.2.1 60033).toInt.toNat from h.symm)) (hF.2)))⟩ hI k4
  · exact t_mb1n hv ρ k1 ⟨hF.1, fcn (dl_lf (x := ρ.2.1 60033) (y := 0) (show (0 : Int) ≤ _ from v0)) (fcn (dl_lf (x := 4) (y := ρ.2.1 60033) (show _ ≤ (4 : Int) from v4)) (fcn (decide_eq_true (show (100925505 : Int) = amcode (ρ.2.2.2.1 64321) 55 (ρ.2.1 60033).toInt.toNat from h.symm)) (hF.2)))⟩ hI k4
  · exact t_mb1l hv ρ k1 ⟨hF.1, fcn (dl_lf (x := ρ.2.1 60033) (y := 0) (show (0 : Int) ≤ _ from v0)) (fcn (dl_lf (x := 4) (y := ρ.2.1 60033) (show _ ≤ (4 : Int) from v4)) (fcn (decide_eq_true (show (100925506 : Int) = amcode (ρ.2.2.2.1 64321) 55 (ρ.2.1 60033).toInt.toNat from h.symm)) (hF.2)))⟩ hI k4
noncomputable def q_mc1 : sCut := ((fr 0 95 34 [(0, tr 75), (1, .int 50), (2, .int 0)] [], [fr 0 93 70 [(0, tr 75)] [], fr 0 60 30 [(0, tr 39), (1, .int 1)] [], fBot], 11), (fr 0 297 64 [(0, tr 219), (1, .arg 1308)] [], [fr 0 300 36 [(0, tr 219), (1, .arg 1308)] [], fBot], 12), [zf98zzzb_89, zf98zzzb_12, zf98zzzb_13, zf98zzzb_14, zf98zzzb_15, ((0, .arg 2816, .int 1), true), zf98zzzb_0, zf98zzzb_1, zf98zzzb_2, zf98zzzb_3, zf98zzzb_4, ((0, .arg 1698, .int 0), true), ((0, .arg 1300, .int 0), true), ((0, .arg 1302, .int 0), true), ((0, .arg 1430, .int 0), true), ((0, .arg 1318, .int 0), true), ((0, .arg 3232, .int 0), true), ((0, .arg 2050, .int 0), true), ((0, .arg 3264, .int 0), true), ((0, .arg 3296, .int 0), true), ((0, .arg 3328, .int 0), true), ((0, .arg 3168, .int 0), true), ((0, .arg 1858, .int 0), true), ((0, .arg 1890, .int 0), true), ((0, .arg 1922, .int 0), true), ((0, .arg 3008, .int 0), true), ((0, .arg 1954, .int 0), true), ((0, .arg 1986, .int 0), true), ((0, .arg 2018, .int 0), true), zf98zzzb_5, ((0, .arg 1702, .int 0), true), ((0, .arg 3360, .int 0), true), ((0, .arg 1350, .int 0), true), ((0, .arg 1826, .int 0), true), zf98zzzb_6, zf98zzzb_7, zf98zzzb_8, zf98zzzb_9, ((0, .arg 1730, .int 0), true)], i_bz)
theorem k_mc1 : cbody kR [] (cpl1 zWB c_bn1 [q_mb1]) (cpl2 zWB c_bn1 [q_mb1]) (cleaf kR zWB c_bn1 [q_mb1]) 60 true false q_mc1.2.2.1 q_mc1.2.2.2 (cst zWB c_bn1.2.2.1.1 q_mc1.1) (cst zWB c_bn1.2.2.1.2 q_mc1.2.1) = true := by decide +kernel
theorem t_mc1 {X : pX} {ρ0 : sR} (hv : vok X ρ0) : CUTOK X kR zWB c_bn1 13 ρ0 q_mc1 := CUT_run kR_x kR_0 (Cs := []) (fun C hC => by cases hC) c_bn1_f (Q := [q_mb1]) hv (fun q hq => by
    simp only [List.mem_cons, List.not_mem_nil, or_false] at hq
    rw [hq]; exact t_mb1 hv) 60 (b1 := true) (b2 := false) k_mc1
noncomputable def zf98zzzb_90 : sQ × Bool := ((6, .arg 60033, .elem (.arg 64321) (.int 50)), true)
noncomputable def zf98zzzb_91 : sQ × Bool := ((157, .add (.elem (.arg 64321) (.int 0)) (.add (.elem (.arg 64353) (.int 0)) (.arg 1308)), .int 0), true)
noncomputable def q_mb0 : sCut := ((fr 0 95 19 [(0, tr 75), (1, .int 50), (2, .int 0), (3, .int 50)] [.arg 60033, .int 50, tr 42], [fr 0 93 70 [(0, tr 75)] [], fr 0 60 30 [(0, tr 39), (1, .int 1)] [], fBot], 11), (fr 0 297 64 [(0, tr 219), (1, .arg 1308)] [], [fr 0 300 36 [(0, tr 219), (1, .arg 1308)] [], fBot], 12), [zf98zzzb_90, zf98zzzb_91, zf98zzzb_12, zf98zzzb_13, zf98zzzb_14, zf98zzzb_15, ((0, .arg 2816, .int 1), true), zf98zzzb_0, zf98zzzb_1, zf98zzzb_2, zf98zzzb_3, zf98zzzb_4, ((0, .arg 1698, .int 0), true), ((0, .arg 1300, .int 0), true), ((0, .arg 1302, .int 0), true), ((0, .arg 1430, .int 0), true), ((0, .arg 1318, .int 0), true), ((0, .arg 3232, .int 0), true), ((0, .arg 2050, .int 0), true), ((0, .arg 3264, .int 0), true), ((0, .arg 3296, .int 0), true), ((0, .arg 3328, .int 0), true), ((0, .arg 3168, .int 0), true), ((0, .arg 1858, .int 0), true), ((0, .arg 1890, .int 0), true), ((0, .arg 1922, .int 0), true), ((0, .arg 3008, .int 0), true), ((0, .arg 1954, .int 0), true), ((0, .arg 1986, .int 0), true), ((0, .arg 2018, .int 0), true), zf98zzzb_5, ((0, .arg 1702, .int 0), true), ((0, .arg 3360, .int 0), true), ((0, .arg 1350, .int 0), true), ((0, .arg 1826, .int 0), true), zf98zzzb_6, zf98zzzb_7, zf98zzzb_8, zf98zzzb_9, ((0, .arg 1730, .int 0), true)], i_bz)
noncomputable def q_mb0o : sCut := ((fr 0 95 19 [(0, tr 75), (1, .int 50), (2, .int 0), (3, .int 50)] [.arg 60033, .int 50, tr 42], [fr 0 93 70 [(0, tr 75)] [], fr 0 60 30 [(0, tr 39), (1, .int 1)] [], fBot], 11), (fr 0 297 64 [(0, tr 219), (1, .arg 1308)] [], [fr 0 300 36 [(0, tr 219), (1, .arg 1308)] [], fBot], 12), [zf98zzzb_76, zf98zzzb_77, ((139, .add (.elem (.arg 64321) (.int 0)) (.add (.int 50) (.arg 60033)), .int 0), true), zf98zzzb_90, zf98zzzb_91, zf98zzzb_12, zf98zzzb_13, zf98zzzb_14, zf98zzzb_15, ((0, .arg 2816, .int 1), true), zf98zzzb_0, zf98zzzb_1, zf98zzzb_2, zf98zzzb_3, zf98zzzb_4, ((0, .arg 1698, .int 0), true), ((0, .arg 1300, .int 0), true), ((0, .arg 1302, .int 0), true), ((0, .arg 1430, .int 0), true), ((0, .arg 1318, .int 0), true), ((0, .arg 3232, .int 0), true), ((0, .arg 2050, .int 0), true), ((0, .arg 3264, .int 0), true), ((0, .arg 3296, .int 0), true), ((0, .arg 3328, .int 0), true), ((0, .arg 3168, .int 0), true), ((0, .arg 1858, .int 0), true), ((0, .arg 1890, .int 0), true), ((0, .arg 1922, .int 0), true), ((0, .arg 3008, .int 0), true), ((0, .arg 1954, .int 0), true), ((0, .arg 1986, .int 0), true), ((0, .arg 2018, .int 0), true), zf98zzzb_5, ((0, .arg 1702, .int 0), true), ((0, .arg 3360, .int 0), true), ((0, .arg 1350, .int 0), true), ((0, .arg 1826, .int 0), true), zf98zzzb_6, zf98zzzb_7, zf98zzzb_8, zf98zzzb_9, ((0, .arg 1730, .int 0), true)], i_bz)
noncomputable def w_mb0o : List (sCut × List (Nat × sT) × List (Nat × sT × List (sT × sT))) := [(q_mc1T, [], [(64321, .arg 64321, []), (64353, .arg 64353, [])])]
theorem k_mb0o : cbody kR [(zWB, c_mco)] (cpl1 zWB c_bn1 [q_mc1T]) (cpl2 zWB c_bn1 [q_mc1T]) (cleafB kR zWB c_bn1 w_mb0o) 700 false false q_mb0o.2.2.1 q_mb0o.2.2.2 (cst zWB c_bn1.2.2.1.1 q_mb0o.1) (cst zWB c_bn1.2.2.1.2 q_mb0o.2.1) = true := by decide +kernel
theorem t_mb0o {X : pX} {ρ0 : sR} (hv : vok X ρ0) : CUTOK X kR zWB c_bn1 13 ρ0 q_mb0o := CUTOK_AT (fun ρ k1 hF hI k4 => AT_of (q := q_mb0o) rfl rfl (SEM_runB kR_x kR_0 (Cs := [(zWB, c_mco)]) (fun C hC => by rw [List.mem_singleton.mp hC]; exact s_mco) c_bn1_f (Q := w_mb0o) hv 700 (b1 := false) (b2 := false) k_mb0o k1 hF hI k4 (fun p hp ρ3 m1 m2 m3 m4 m5 m6 => by
  rw [List.mem_singleton.mp hp] at m2 m3 m5 m6 ⊢
  have eD : ρ3.1 1308 = ρ.1 1308 := (m4.1 1308 (by decide) (by decide)).1.trans (k4.1 1308 (by decide) (by decide)).1.symm
  obtain ⟨d0, d4⟩ := d_r hF.1
  have hB : ∀ j, ρ3.2.2.2.1 64353 j = ρ.2.2.2.1 64353 j := fun j => by
    have hw := m6 (64353, .arg 64353, []) (List.mem_cons_of_mem _ (List.mem_cons_self)) j
    have hw : Value.long (ρ3.2.2.2.1 64353 j) = Value.long (ρ.2.2.2.1 64353 j) := hw
    exact Value.long.inj hw
  have hA : ∀ j, ρ3.2.2.2.1 64321 j = ρ.2.2.2.1 64321 j := fun j => by
    have hw := m6 (64321, .arg 64321, []) (List.mem_cons_self) j
    have hw : Value.long (ρ3.2.2.2.1 64321 j) = Value.long (ρ.2.2.2.1 64321 j) := hw
    exact Value.long.inj hw
  have h7 := k157.mp (hF.2 _ (List.mem_cons_of_mem _ (List.mem_cons_of_mem _ (List.mem_cons_of_mem _ (List.mem_cons_of_mem _ (List.mem_cons_self))))))
  have h5 := k155.mp (hF.2 _ (List.mem_cons_of_mem _ (List.mem_cons_of_mem _ (List.mem_cons_of_mem _ (List.mem_cons_of_mem _ (List.mem_cons_of_mem _ (List.mem_cons_self)))))))
  have eB : ρ3.2.2.2.1 64353 = ρ.2.2.2.1 64353 := funext hB
  have ev : ρ.2.1 60033 = ρ.2.2.2.1 64321 50 := of_decide_eq_true (hF.2 _ (List.mem_cons_of_mem _ (List.mem_cons_of_mem _ (List.mem_cons_of_mem _ (List.mem_cons_self)))))
  have hc : (0 : Int) = amcode (ρ.2.2.2.1 64321) 50 (ρ.2.1 60033).toInt.toNat := of_decide_eq_true (hF.2 _ (List.mem_cons_of_mem _ (List.mem_cons_of_mem _ (List.mem_cons_self))))
  rw [ev] at hc
  have x7 : sc X ρ3 (157, .add (.elem (.arg 64321) (.int 0)) (.add (.elem (.arg 64353) (.int 0)) (.arg 1308)), .int 1) = true := k157.mpr (by
    rw [eB, eD]
    exact amn_c (K := 0) (m := 50) (by decide) rfl h7 h5 (Or.inl ⟨hc.symm, fun j _ => hA j⟩))
  have x5 : sc X ρ3 (155, .elem (.arg 64353) (.int 0), .int 0) = true := k155.mpr (by rw [eB]; exact h5)
  have z1 : sc X ρ3 (6, .elem (.arg 64321) (.int 1), .long 0) = true := decide_eq_true (show ρ3.2.2.2.1 64321 1 = 0 by
    rw [hA]
    exact of_decide_eq_true (hF.2 _ (List.mem_cons_of_mem _ (List.mem_cons_of_mem _ (List.mem_cons_of_mem _ (List.mem_cons_of_mem _ (List.mem_cons_of_mem _ (List.mem_cons_of_mem _ (List.mem_cons_self)))))))))
  have z2 : sc X ρ3 (6, .elem (.arg 64353) (.int 114), .long 0) = true := decide_eq_true (show ρ3.2.2.2.1 64353 114 = 0 by
    rw [hB]
    exact of_decide_eq_true (hF.2 _ (List.mem_cons_of_mem _ (List.mem_cons_of_mem _ (List.mem_cons_of_mem _ (List.mem_cons_of_mem _ (List.mem_cons_of_mem _ (List.mem_cons_of_mem _ (List.mem_cons_of_mem _ (List.mem_cons_self))))))))))
  have z3 : sc X ρ3 (6, .elem (.arg 64353) (.int 123), .long 0) = true := decide_eq_true (show ρ3.2.2.2.1 64353 123 = 0 by
    rw [hB]
    exact of_decide_eq_true (hF.2 _ (List.mem_cons_of_mem _ (List.mem_cons_of_mem _ (List.mem_cons_of_mem _ (List.mem_cons_of_mem _ (List.mem_cons_of_mem _ (List.mem_cons_of_mem _ (List.mem_cons_of_mem _ (List.mem_cons_of_mem _ (List.mem_cons_self)))))))))))
  exact t_mc1 hv ρ3 m1 ⟨m2.1, fcn (x7) (fcn (x5) (fcn (z1) (fcn (z2) (fcn (z3) (m2.2)))))⟩ m3 m4)))
noncomputable def q_mb0n : sCut := ((fr 0 95 19 [(0, tr 75), (1, .int 50), (2, .int 0), (3, .int 50)] [.arg 60033, .int 50, tr 42], [fr 0 93 70 [(0, tr 75)] [], fr 0 60 30 [(0, tr 39), (1, .int 1)] [], fBot], 11), (fr 0 297 64 [(0, tr 219), (1, .arg 1308)] [], [fr 0 300 36 [(0, tr 219), (1, .arg 1308)] [], fBot], 12), [zf98zzzb_76, zf98zzzb_77, ((139, .add (.elem (.arg 64321) (.int 0)) (.add (.int 50) (.arg 60033)), .int 100925505), true), zf98zzzb_90, zf98zzzb_91, zf98zzzb_12, zf98zzzb_13, zf98zzzb_14, zf98zzzb_15, ((0, .arg 2816, .int 1), true), zf98zzzb_0, zf98zzzb_1, zf98zzzb_2, zf98zzzb_3, zf98zzzb_4, ((0, .arg 1698, .int 0), true), ((0, .arg 1300, .int 0), true), ((0, .arg 1302, .int 0), true), ((0, .arg 1430, .int 0), true), ((0, .arg 1318, .int 0), true), ((0, .arg 3232, .int 0), true), ((0, .arg 2050, .int 0), true), ((0, .arg 3264, .int 0), true), ((0, .arg 3296, .int 0), true), ((0, .arg 3328, .int 0), true), ((0, .arg 3168, .int 0), true), ((0, .arg 1858, .int 0), true), ((0, .arg 1890, .int 0), true), ((0, .arg 1922, .int 0), true), ((0, .arg 3008, .int 0), true), ((0, .arg 1954, .int 0), true), ((0, .arg 1986, .int 0), true), ((0, .arg 2018, .int 0), true), zf98zzzb_5, ((0, .arg 1702, .int 0), true), ((0, .arg 3360, .int 0), true), ((0, .arg 1350, .int 0), true), ((0, .arg 1826, .int 0), true), zf98zzzb_6, zf98zzzb_7, zf98zzzb_8, zf98zzzb_9, ((0, .arg 1730, .int 0), true)], i_bz)
noncomputable def w_mb0n : List (sCut × List (Nat × sT) × List (Nat × sT × List (sT × sT))) := [(q_mc1T, [], [(64321, .arg 64321, [(.int 54, .long 0), (.int 53, .long 0), (.int 52, .long 0), (.int 51, .long 1614807056), (.int 50, .long 1)]), (64353, .arg 64353, [])])]
theorem k_mb0n : cbody kR [(zWB, c_mcn)] (cpl1 zWB c_bn1 [q_mc1T]) (cpl2 zWB c_bn1 [q_mc1T]) (cleafB kR zWB c_bn1 w_mb0n) 700 false false q_mb0n.2.2.1 q_mb0n.2.2.2 (cst zWB c_bn1.2.2.1.1 q_mb0n.1) (cst zWB c_bn1.2.2.1.2 q_mb0n.2.1) = true := by decide +kernel
theorem t_mb0n {X : pX} {ρ0 : sR} (hv : vok X ρ0) : CUTOK X kR zWB c_bn1 13 ρ0 q_mb0n := CUTOK_AT (fun ρ k1 hF hI k4 => AT_of (q := q_mb0n) rfl rfl (SEM_runB kR_x kR_0 (Cs := [(zWB, c_mcn)]) (fun C hC => by rw [List.mem_singleton.mp hC]; exact s_mcn) c_bn1_f (Q := w_mb0n) hv 700 (b1 := false) (b2 := false) k_mb0n k1 hF hI k4 (fun p hp ρ3 m1 m2 m3 m4 m5 m6 => by
  rw [List.mem_singleton.mp hp] at m2 m3 m5 m6 ⊢
  have eD : ρ3.1 1308 = ρ.1 1308 := (m4.1 1308 (by decide) (by decide)).1.trans (k4.1 1308 (by decide) (by decide)).1.symm
  obtain ⟨d0, d4⟩ := d_r hF.1
  have hB : ∀ j, ρ3.2.2.2.1 64353 j = ρ.2.2.2.1 64353 j := fun j => by
    have hw := m6 (64353, .arg 64353, []) (List.mem_cons_of_mem _ (List.mem_cons_self)) j
    have hw : Value.long (ρ3.2.2.2.1 64353 j) = Value.long (ρ.2.2.2.1 64353 j) := hw
    exact Value.long.inj hw
  obtain ⟨hAn, hAf⟩ := fiv_w (f := ρ.2.2.2.1 64321) (g := ρ3.2.2.2.1 64321) (m := 50) (d := (ρ.1 1308).toInt) (v0 := 1) (v1 := 1614807056) (v2 := 0) (v3 := 0) (v4 := 0) (fun j => m6 (64321, .arg 64321, [(.int 54, .long 0), (.int 53, .long 0), (.int 52, .long 0), (.int 51, .long 1614807056), (.int 50, .long 1)]) (List.mem_cons_self) j) (amw_50 d0 d4 (i := 0) (by decide)) (amw_50 d0 d4 (i := 1) (by decide)) (amw_50 d0 d4 (i := 2) (by decide)) (amw_50 d0 d4 (i := 3) (by decide)) (amw_50 d0 d4 (i := 4) (by decide))
  have h7 := k157.mp (hF.2 _ (List.mem_cons_of_mem _ (List.mem_cons_of_mem _ (List.mem_cons_of_mem _ (List.mem_cons_of_mem _ (List.mem_cons_self))))))
  have h5 := k155.mp (hF.2 _ (List.mem_cons_of_mem _ (List.mem_cons_of_mem _ (List.mem_cons_of_mem _ (List.mem_cons_of_mem _ (List.mem_cons_of_mem _ (List.mem_cons_self)))))))
  have eB : ρ3.2.2.2.1 64353 = ρ.2.2.2.1 64353 := funext hB
  have ev : ρ.2.1 60033 = ρ.2.2.2.1 64321 50 := of_decide_eq_true (hF.2 _ (List.mem_cons_of_mem _ (List.mem_cons_of_mem _ (List.mem_cons_of_mem _ (List.mem_cons_self)))))
  have hc : (100925505 : Int) = amcode (ρ.2.2.2.1 64321) 50 (ρ.2.1 60033).toInt.toNat := of_decide_eq_true (hF.2 _ (List.mem_cons_of_mem _ (List.mem_cons_of_mem _ (List.mem_cons_self))))
  rw [ev] at hc
  have x7 : sc X ρ3 (157, .add (.elem (.arg 64321) (.int 0)) (.add (.elem (.arg 64353) (.int 0)) (.arg 1308)), .int 1) = true := k157.mpr (by
    rw [eB, eD]
    exact amn_c (K := 0) (m := 50) (by decide) rfl h7 h5 (Or.inr ⟨by rw [← hc]; decide, fun j hj => by
    by_cases hi : 50 ≤ j ∧ j < 50 + 5
    · rw [if_pos hi]; exact hAf j hi.1 hi.2
    · rw [if_neg hi, hAn j hi]⟩))
  have x5 : sc X ρ3 (155, .elem (.arg 64353) (.int 0), .int 0) = true := k155.mpr (by rw [eB]; exact h5)
  have z1 : sc X ρ3 (6, .elem (.arg 64321) (.int 1), .long 0) = true := decide_eq_true (show ρ3.2.2.2.1 64321 1 = 0 by
    rw [hAn 1 (by decide)]
    exact of_decide_eq_true (hF.2 _ (List.mem_cons_of_mem _ (List.mem_cons_of_mem _ (List.mem_cons_of_mem _ (List.mem_cons_of_mem _ (List.mem_cons_of_mem _ (List.mem_cons_of_mem _ (List.mem_cons_self)))))))))
  have z2 : sc X ρ3 (6, .elem (.arg 64353) (.int 114), .long 0) = true := decide_eq_true (show ρ3.2.2.2.1 64353 114 = 0 by
    rw [hB]
    exact of_decide_eq_true (hF.2 _ (List.mem_cons_of_mem _ (List.mem_cons_of_mem _ (List.mem_cons_of_mem _ (List.mem_cons_of_mem _ (List.mem_cons_of_mem _ (List.mem_cons_of_mem _ (List.mem_cons_of_mem _ (List.mem_cons_self))))))))))
  have z3 : sc X ρ3 (6, .elem (.arg 64353) (.int 123), .long 0) = true := decide_eq_true (show ρ3.2.2.2.1 64353 123 = 0 by
    rw [hB]
    exact of_decide_eq_true (hF.2 _ (List.mem_cons_of_mem _ (List.mem_cons_of_mem _ (List.mem_cons_of_mem _ (List.mem_cons_of_mem _ (List.mem_cons_of_mem _ (List.mem_cons_of_mem _ (List.mem_cons_of_mem _ (List.mem_cons_of_mem _ (List.mem_cons_self)))))))))))
  exact t_mc1 hv ρ3 m1 ⟨m2.1, fcn (x7) (fcn (x5) (fcn (z1) (fcn (z2) (fcn (z3) (m2.2)))))⟩ m3 m4)))
noncomputable def q_mb0l : sCut := ((fr 0 95 19 [(0, tr 75), (1, .int 50), (2, .int 0), (3, .int 50)] [.arg 60033, .int 50, tr 42], [fr 0 93 70 [(0, tr 75)] [], fr 0 60 30 [(0, tr 39), (1, .int 1)] [], fBot], 11), (fr 0 297 64 [(0, tr 219), (1, .arg 1308)] [], [fr 0 300 36 [(0, tr 219), (1, .arg 1308)] [], fBot], 12), [zf98zzzb_76, zf98zzzb_77, ((139, .add (.elem (.arg 64321) (.int 0)) (.add (.int 50) (.arg 60033)), .int 100925506), true), zf98zzzb_90, zf98zzzb_91, zf98zzzb_12, zf98zzzb_13, zf98zzzb_14, zf98zzzb_15, ((0, .arg 2816, .int 1), true), zf98zzzb_0, zf98zzzb_1, zf98zzzb_2, zf98zzzb_3, zf98zzzb_4, ((0, .arg 1698, .int 0), true), ((0, .arg 1300, .int 0), true), ((0, .arg 1302, .int 0), true), ((0, .arg 1430, .int 0), true), ((0, .arg 1318, .int 0), true), ((0, .arg 3232, .int 0), true), ((0, .arg 2050, .int 0), true), ((0, .arg 3264, .int 0), true), ((0, .arg 3296, .int 0), true), ((0, .arg 3328, .int 0), true), ((0, .arg 3168, .int 0), true), ((0, .arg 1858, .int 0), true), ((0, .arg 1890, .int 0), true), ((0, .arg 1922, .int 0), true), ((0, .arg 3008, .int 0), true), ((0, .arg 1954, .int 0), true), ((0, .arg 1986, .int 0), true), ((0, .arg 2018, .int 0), true), zf98zzzb_5, ((0, .arg 1702, .int 0), true), ((0, .arg 3360, .int 0), true), ((0, .arg 1350, .int 0), true), ((0, .arg 1826, .int 0), true), zf98zzzb_6, zf98zzzb_7, zf98zzzb_8, zf98zzzb_9, ((0, .arg 1730, .int 0), true)], i_bz)
noncomputable def w_mb0l : List (sCut × List (Nat × sT) × List (Nat × sT × List (sT × sT))) := [(q_mc1T, [], [(64321, .arg 64321, [(.int 54, .long 0), (.int 53, .long 0), (.int 52, .long 0), (.int 51, .long 1614807056), (.int 50, .long 1)]), (64353, .arg 64353, [])])]
theorem k_mb0l : cbody kR [(zWB, c_mcl)] (cpl1 zWB c_bn1 [q_mc1T]) (cpl2 zWB c_bn1 [q_mc1T]) (cleafB kR zWB c_bn1 w_mb0l) 700 false false q_mb0l.2.2.1 q_mb0l.2.2.2 (cst zWB c_bn1.2.2.1.1 q_mb0l.1) (cst zWB c_bn1.2.2.1.2 q_mb0l.2.1) = true := by decide +kernel
theorem t_mb0l {X : pX} {ρ0 : sR} (hv : vok X ρ0) : CUTOK X kR zWB c_bn1 13 ρ0 q_mb0l := CUTOK_AT (fun ρ k1 hF hI k4 => AT_of (q := q_mb0l) rfl rfl (SEM_runB kR_x kR_0 (Cs := [(zWB, c_mcl)]) (fun C hC => by rw [List.mem_singleton.mp hC]; exact s_mcl) c_bn1_f (Q := w_mb0l) hv 700 (b1 := false) (b2 := false) k_mb0l k1 hF hI k4 (fun p hp ρ3 m1 m2 m3 m4 m5 m6 => by
  rw [List.mem_singleton.mp hp] at m2 m3 m5 m6 ⊢
  have eD : ρ3.1 1308 = ρ.1 1308 := (m4.1 1308 (by decide) (by decide)).1.trans (k4.1 1308 (by decide) (by decide)).1.symm
  obtain ⟨d0, d4⟩ := d_r hF.1
  have hB : ∀ j, ρ3.2.2.2.1 64353 j = ρ.2.2.2.1 64353 j := fun j => by
    have hw := m6 (64353, .arg 64353, []) (List.mem_cons_of_mem _ (List.mem_cons_self)) j
    have hw : Value.long (ρ3.2.2.2.1 64353 j) = Value.long (ρ.2.2.2.1 64353 j) := hw
    exact Value.long.inj hw
  obtain ⟨hAn, hAf⟩ := fiv_w (f := ρ.2.2.2.1 64321) (g := ρ3.2.2.2.1 64321) (m := 50) (d := (ρ.1 1308).toInt) (v0 := 1) (v1 := 1614807056) (v2 := 0) (v3 := 0) (v4 := 0) (fun j => m6 (64321, .arg 64321, [(.int 54, .long 0), (.int 53, .long 0), (.int 52, .long 0), (.int 51, .long 1614807056), (.int 50, .long 1)]) (List.mem_cons_self) j) (amw_50 d0 d4 (i := 0) (by decide)) (amw_50 d0 d4 (i := 1) (by decide)) (amw_50 d0 d4 (i := 2) (by decide)) (amw_50 d0 d4 (i := 3) (by decide)) (amw_50 d0 d4 (i := 4) (by decide))
  have h7 := k157.mp (hF.2 _ (List.mem_cons_of_mem _ (List.mem_cons_of_mem _ (List.mem_cons_of_mem _ (List.mem_cons_of_mem _ (List.mem_cons_self))))))
  have h5 := k155.mp (hF.2 _ (List.mem_cons_of_mem _ (List.mem_cons_of_mem _ (List.mem_cons_of_mem _ (List.mem_cons_of_mem _ (List.mem_cons_of_mem _ (List.mem_cons_self)))))))
  have eB : ρ3.2.2.2.1 64353 = ρ.2.2.2.1 64353 := funext hB
  have ev : ρ.2.1 60033 = ρ.2.2.2.1 64321 50 := of_decide_eq_true (hF.2 _ (List.mem_cons_of_mem _ (List.mem_cons_of_mem _ (List.mem_cons_of_mem _ (List.mem_cons_self)))))
  have hc : (100925506 : Int) = amcode (ρ.2.2.2.1 64321) 50 (ρ.2.1 60033).toInt.toNat := of_decide_eq_true (hF.2 _ (List.mem_cons_of_mem _ (List.mem_cons_of_mem _ (List.mem_cons_self))))
  rw [ev] at hc
  have x7 : sc X ρ3 (157, .add (.elem (.arg 64321) (.int 0)) (.add (.elem (.arg 64353) (.int 0)) (.arg 1308)), .int 1) = true := k157.mpr (by
    rw [eB, eD]
    exact amn_c (K := 0) (m := 50) (by decide) rfl h7 h5 (Or.inr ⟨by rw [← hc]; decide, fun j hj => by
    by_cases hi : 50 ≤ j ∧ j < 50 + 5
    · rw [if_pos hi]; exact hAf j hi.1 hi.2
    · rw [if_neg hi, hAn j hi]⟩))
  have x5 : sc X ρ3 (155, .elem (.arg 64353) (.int 0), .int 0) = true := k155.mpr (by rw [eB]; exact h5)
  have z1 : sc X ρ3 (6, .elem (.arg 64321) (.int 1), .long 0) = true := decide_eq_true (show ρ3.2.2.2.1 64321 1 = 0 by
    rw [hAn 1 (by decide)]
    exact of_decide_eq_true (hF.2 _ (List.mem_cons_of_mem _ (List.mem_cons_of_mem _ (List.mem_cons_of_mem _ (List.mem_cons_of_mem _ (List.mem_cons_of_mem _ (List.mem_cons_of_mem _ (List.mem_cons_self)))))))))
  have z2 : sc X ρ3 (6, .elem (.arg 64353) (.int 114), .long 0) = true := decide_eq_true (show ρ3.2.2.2.1 64353 114 = 0 by
    rw [hB]
    exact of_decide_eq_true (hF.2 _ (List.mem_cons_of_mem _ (List.mem_cons_of_mem _ (List.mem_cons_of_mem _ (List.mem_cons_of_mem _ (List.mem_cons_of_mem _ (List.mem_cons_of_mem _ (List.mem_cons_of_mem _ (List.mem_cons_self))))))))))
  have z3 : sc X ρ3 (6, .elem (.arg 64353) (.int 123), .long 0) = true := decide_eq_true (show ρ3.2.2.2.1 64353 123 = 0 by
    rw [hB]
    exact of_decide_eq_true (hF.2 _ (List.mem_cons_of_mem _ (List.mem_cons_of_mem _ (List.mem_cons_of_mem _ (List.mem_cons_of_mem _ (List.mem_cons_of_mem _ (List.mem_cons_of_mem _ (List.mem_cons_of_mem _ (List.mem_cons_of_mem _ (List.mem_cons_self)))))))))))
  exact t_mc1 hv ρ3 m1 ⟨m2.1, fcn (x7) (fcn (x5) (fcn (z1) (fcn (z2) (fcn (z3) (m2.2)))))⟩ m3 m4)))
theorem t_mb0 {X : pX} {ρ0 : sR} (hv : vok X ρ0) : CUTOK X kR zWB c_bn1 13 ρ0 q_mb0 := fun ρ k1 hF hI k4 => by
  have h5 := k155.mp (hF.2 _ (List.mem_cons_of_mem _ (List.mem_cons_of_mem _ (List.mem_cons_self))))
  have h7 := (k157.mp (hF.2 _ (List.mem_cons_of_mem _ (List.mem_cons_self))) 50 (by decide)).resolve_left (by decide)
  have eA : (ρ.2.2.2.1 64321 50).toInt = (ρ.2.2.2.1 64353 50).toInt := h7.trans (amn_i (K := 0) (m := 50) (by decide) (by decide) rfl (by decide) (by decide))
  obtain ⟨v0, v4⟩ := ev_m4 (m := 50) (by decide) (h5 50 (by decide))
  rw [← eA] at v0 v4
  have ev : ρ.2.1 60033 = ρ.2.2.2.1 64321 50 := of_decide_eq_true (hF.2 _ (List.mem_cons_self))
  rw [← ev] at v0 v4
  rcases am_3 (g := ρ.2.2.2.1 64321) (m := 50) (n := (ρ.2.1 60033).toInt.toNat) with h | h | h
  · exact t_mb0o hv ρ k1 ⟨hF.1, fcn (dl_lf (x := ρ.2.1 60033) (y := 0) (show (0 : Int) ≤ _ from v0)) (fcn (dl_lf (x := 4) (y := ρ.2.1 60033) (show _ ≤ (4 : Int) from v4)) (fcn (decide_eq_true (show (0 : Int) = amcode (ρ.2.2.2.1 64321) 50 (ρ.2.1 60033).toInt.toNat from h.symm)) (hF.2)))⟩ hI k4
  · exact t_mb0n hv ρ k1 ⟨hF.1, fcn (dl_lf (x := ρ.2.1 60033) (y := 0) (show (0 : Int) ≤ _ from v0)) (fcn (dl_lf (x := 4) (y := ρ.2.1 60033) (show _ ≤ (4 : Int) from v4)) (fcn (decide_eq_true (show (100925505 : Int) = amcode (ρ.2.2.2.1 64321) 50 (ρ.2.1 60033).toInt.toNat from h.symm)) (hF.2)))⟩ hI k4
  · exact t_mb0l hv ρ k1 ⟨hF.1, fcn (dl_lf (x := ρ.2.1 60033) (y := 0) (show (0 : Int) ≤ _ from v0)) (fcn (dl_lf (x := 4) (y := ρ.2.1 60033) (show _ ≤ (4 : Int) from v4)) (fcn (decide_eq_true (show (100925506 : Int) = amcode (ρ.2.2.2.1 64321) 50 (ρ.2.1 60033).toInt.toNat from h.symm)) (hF.2)))⟩ hI k4
noncomputable def q_mc0 : sCut := ((fr 0 93 67 [(0, tr 75)] [], [fr 0 60 30 [(0, tr 39), (1, .int 1)] [], fBot], 12), (fr 0 297 64 [(0, tr 219), (1, .arg 1308)] [], [fr 0 300 36 [(0, tr 219), (1, .arg 1308)] [], fBot], 12), [zf98zzzb_91, zf98zzzb_12, zf98zzzb_13, zf98zzzb_14, zf98zzzb_15, ((0, .arg 2816, .int 1), true), zf98zzzb_0, zf98zzzb_1, zf98zzzb_2, zf98zzzb_3, zf98zzzb_4, ((0, .arg 1698, .int 0), true), ((0, .arg 1300, .int 0), true), ((0, .arg 1302, .int 0), true), ((0, .arg 1430, .int 0), true), ((0, .arg 1318, .int 0), true), ((0, .arg 3232, .int 0), true), ((0, .arg 2050, .int 0), true), ((0, .arg 3264, .int 0), true), ((0, .arg 3296, .int 0), true), ((0, .arg 3328, .int 0), true), ((0, .arg 3168, .int 0), true), ((0, .arg 1858, .int 0), true), ((0, .arg 1890, .int 0), true), ((0, .arg 1922, .int 0), true), ((0, .arg 3008, .int 0), true), ((0, .arg 1954, .int 0), true), ((0, .arg 1986, .int 0), true), ((0, .arg 2018, .int 0), true), zf98zzzb_5, ((0, .arg 1702, .int 0), true), ((0, .arg 3360, .int 0), true), ((0, .arg 1350, .int 0), true), ((0, .arg 1826, .int 0), true), zf98zzzb_6, zf98zzzb_7, zf98zzzb_8, zf98zzzb_9, ((0, .arg 1730, .int 0), true)], i_bz)
theorem k_mc0 : cbody kR [] (cpl1 zWB c_bn1 [q_mb0]) (cpl2 zWB c_bn1 [q_mb0]) (cleaf kR zWB c_bn1 [q_mb0]) 60 true false q_mc0.2.2.1 q_mc0.2.2.2 (cst zWB c_bn1.2.2.1.1 q_mc0.1) (cst zWB c_bn1.2.2.1.2 q_mc0.2.1) = true := by decide +kernel
theorem t_mc0 {X : pX} {ρ0 : sR} (hv : vok X ρ0) : CUTOK X kR zWB c_bn1 13 ρ0 q_mc0 := CUT_run kR_x kR_0 (Cs := []) (fun C hC => by cases hC) c_bn1_f (Q := [q_mb0]) hv (fun q hq => by
    simp only [List.mem_cons, List.not_mem_nil, or_false] at hq
    rw [hq]; exact t_mb0 hv) 60 (b1 := true) (b2 := false) k_mc0
theorem t_bms1 {X : pX} {ρ0 : sR} (hv : vok X ρ0) : CUTOK X kR zWB c_bn1 13 ρ0 q_bms1 := CUT_mono (t_mc0 hv) (fun ρ hF hI => ⟨⟨hF.1, fcn (k157.mpr (fun j hj => (k156.mp (hF.2 _ (List.mem_cons_self)) j hj).imp_right (fun q => congrArg Int64.toInt q))) (fun f hf => hF.2 f (List.mem_cons_of_mem _ hf))⟩, hI⟩)

/-! ===== the way that a speed needs to stop: numbers ===== -/
/-- the sum of s, s - d, .. as long as they are not below 0 -/
noncomputable def gF (d s : Int) : Int := s + s / d * s - d * (s / d * (s / d + 1) / 2)
noncomputable def gS (d k s : Int) : Int := s + k * s - d * (k * (k + 1) / 2)
theorem tri_next (k : Int) : (k + 1) * (k + 1 + 1) / 2 = k * (k + 1) / 2 + (k + 1) := by
  have e : (k + 1) * (k + 1 + 1) = k * (k + 1) + (k + 1) * 2 := by grind
  rw [e, Int.add_mul_ediv_right _ _ (by omega)]
theorem gS_next {d k s : Int} (h : d * (k + 1) ≤ s) : gS d k s ≤ gS d (k + 1) s := by
  unfold gS
  rw [tri_next]
  have e : (k + 1) * s = k * s + s := by grind
  have e2 : d * (k * (k + 1) / 2 + (k + 1)) = d * (k * (k + 1) / 2) + d * (k + 1) := Int.mul_add _ _ _
  rw [e, e2]
  omega
theorem gS_up {d s : Int} (k : Int) (n : Nat) (h : d * (k + n) ≤ s) (hd : 0 ≤ d) : gS d k s ≤ gS d (k + n) s := by
  induction n with
  | zero => simp
  | succ n ih =>
    have e : (k + ((n + 1 : Nat) : Int)) = k + n + 1 := by omega
    rw [e] at h ⊢
    have h1 : d * (k + n) ≤ d * (k + n + 1) := Int.mul_le_mul_of_nonneg_left (by omega) hd
    exact Int.le_trans (ih (by omega)) (gS_next h)
theorem gF_mono {d s t : Int} (hd : 1 ≤ d) (h0 : 0 ≤ s) (h : s ≤ t) : gF d s ≤ gF d t := by
  have hk : 0 ≤ s / d := Int.ediv_nonneg h0 (by omega)
  have h1 : gF d s ≤ gS d (s / d) t := by
    show s + s / d * s - d * (s / d * (s / d + 1) / 2) ≤ t + s / d * t - d * (s / d * (s / d + 1) / 2)
    have : s / d * s ≤ s / d * t := Int.mul_le_mul_of_nonneg_left h hk
    omega
  have h2 : s / d ≤ t / d := Int.ediv_le_ediv (by omega) h
  obtain ⟨n, hn⟩ : ∃ n : Nat, t / d = s / d + n := ⟨(t / d - s / d).toNat, by omega⟩
  have h3 : d * (t / d) ≤ t := Int.mul_ediv_self_le (by omega)
  have h4 := gS_up (d := d) (s := t) (s / d) n (by rw [← hn]; exact h3) (by omega)
  rw [← hn] at h4
  exact Int.le_trans h1 h4
/-- the greatest that can stop in time is one alone -/
theorem g_uniq {d lo hi w R l : Int} (hd : 1 ≤ d) (h0 : 0 ≤ lo) (r1 : lo ≤ R) (r2 : R ≤ hi) (r3 : R = lo ∨ gF d R ≤ w) (r4 : R = hi ∨ w < gF d (R + 1)) (l1 : lo ≤ l) (l2 : l ≤ hi) (l3 : l = lo ∨ gF d l ≤ w) (l4 : l = hi ∨ w < gF d (l + 1)) : R = l := by
  by_cases h1 : R < l
  · have h2 : gF d l ≤ w := by rcases l3 with e | e; (· omega); exact e
    have h3 : w < gF d (R + 1) := by rcases r4 with e | e; (· omega); exact e
    have h4 := gF_mono (d := d) (s := R + 1) (t := l) hd (by omega) (by omega)
    omega
  · by_cases h2 : l < R
    · have h3 : gF d R ≤ w := by rcases r3 with e | e; (· omega); exact e
      have h4 : w < gF d (l + 1) := by rcases l4 with e | e; (· omega); exact e
      have h5 := gF_mono (d := d) (s := l + 1) (t := R) hd (by omega) (by omega)
      omega
    · omega
/-- in longs nothing runs over -/
theorem g_bounds {d s : Int} (hd : 1 ≤ d) (h0 : 0 ≤ s) (h1 : s ≤ 2000000000) : 0 ≤ s / d ∧ s / d ≤ 2000000000 ∧ 0 ≤ s / d * s ∧ s / d * s ≤ 4000000000000000000 ∧ 0 ≤ d * (s / d) ∧ d * (s / d) ≤ 2000000000 ∧ 0 ≤ s / d * (s / d + 1) ∧ s / d * (s / d + 1) ≤ 4000000002000000000 ∧ 0 ≤ d * (s / d) * (s / d + 1) ∧ d * (s / d) * (s / d + 1) ≤ 4000000002000000000 := by
  have a1 : 0 ≤ s / d := Int.ediv_nonneg h0 (by omega)
  have a2 : s / d ≤ s := Int.ediv_le_self _ h0
  have a3 : 0 ≤ d * (s / d) := Int.mul_nonneg (by omega) a1
  have a4 : d * (s / d) ≤ s := Int.mul_ediv_self_le (by omega)
  have m : ∀ {x y : Int}, 0 ≤ x → x ≤ 2000000000 → 0 ≤ y → y ≤ 2000000001 → x * y ≤ 2000000000 * 2000000001 := fun hx hx2 hy hy2 => Int.mul_le_mul hx2 hy2 hy (by omega)
  have m2 : s / d * s ≤ 2000000000 * 2000000000 := Int.mul_le_mul (by omega) h1 h0 (by omega)
  refine ⟨a1, by omega, Int.mul_nonneg a1 h0, by omega, a3, by omega, Int.mul_nonneg a1 (by omega), ?_, Int.mul_nonneg a3 (by omega), ?_⟩
  · have := m a1 (by omega) (show 0 ≤ s / d + 1 by omega) (by omega)
    omega
  · have := m a3 (by omega) (show 0 ≤ s / d + 1 by omega) (by omega)
    omega
theorem tri_even (n : Int) : n * (n + 1) / 2 * 2 = n * (n + 1) := by
  have h : n * (n + 1) % 2 = 0 := by
    rcases Int.emod_two_eq n with e | e
    · rw [Int.mul_emod, e]; simp
    · have : (n + 1) % 2 = 0 := by omega
      rw [Int.mul_emod, this]; simp
  omega
theorem g_half {d n : Int} : d * n * (n + 1) / 2 = d * (n * (n + 1) / 2) := by
  have e : d * n * (n + 1) = d * (n * (n + 1) / 2) * 2 := by
    have := tri_even n
    have e2 : d * n * (n + 1) = d * (n * (n + 1)) := by grind
    rw [e2, ← this]
    grind
  rw [e, Int.mul_ediv_cancel _ (by omega)]
theorem gC_val {s d : Int64} (h0 : 0 ≤ s.toInt) (h1 : s.toInt ≤ 2000000000) (hd : 1 ≤ d.toInt) : ((s + s / d * s) - d * (s / d) * (s / d + 1) / 2).toInt = gF d.toInt s.toInt := by
  obtain ⟨b1, b2, b3, b4, b5, b6, b7, b8, b9, b10⟩ := g_bounds hd h0 h1
  have e1 : (s / d).toInt = s.toInt / d.toInt := l_div h0 (by omega)
  have e2 : (s / d * s).toInt = s.toInt / d.toInt * s.toInt := by rw [l_mul (by rw [e1]; omega) (by rw [e1]; omega), e1]
  have e3 : (s + s / d * s).toInt = s.toInt + s.toInt / d.toInt * s.toInt := by rw [l_add (by rw [e2]; omega) (by rw [e2]; omega), e2]
  have e4 : (d * (s / d)).toInt = d.toInt * (s.toInt / d.toInt) := by rw [l_mul (by rw [e1]; omega) (by rw [e1]; omega), e1]
  have e5 : (s / d + 1).toInt = s.toInt / d.toInt + 1 := by rw [l_add (y := 1) (by rw [e1]; show _ ≤ s.toInt / d.toInt + 1; omega) (by rw [e1]; show s.toInt / d.toInt + 1 ≤ _; omega), e1]; rfl
  have e6 : (d * (s / d) * (s / d + 1)).toInt = d.toInt * (s.toInt / d.toInt) * (s.toInt / d.toInt + 1) := by rw [l_mul (by rw [e4, e5]; omega) (by rw [e4, e5]; omega), e4, e5]
  have e7 : (d * (s / d) * (s / d + 1) / 2).toInt = d.toInt * (s.toInt / d.toInt) * (s.toInt / d.toInt + 1) / 2 := by rw [l_div (y := 2) (by rw [e6]; omega) (by decide), e6]; rfl
  have b11 : 0 ≤ d.toInt * (s.toInt / d.toInt) * (s.toInt / d.toInt + 1) / 2 := Int.ediv_nonneg b9 (by omega)
  have b12 : d.toInt * (s.toInt / d.toInt) * (s.toInt / d.toInt + 1) / 2 ≤ 4000000002000000000 := by omega
  rw [l_sub (by rw [e3, e7]; omega) (by rw [e3, e7]; omega), e3, e7]
  unfold gF
  rw [g_half]
theorem gM_val {s d : Int64} (h0 : 0 ≤ s.toInt) (h1 : s.toInt ≤ 2000000000) (hd : 1 ≤ d.toInt) : (s + (s / d * s - d * (s / d * (s / d + 1) / 2))).toInt = gF d.toInt s.toInt := by
  obtain ⟨b1, b2, b3, b4, b5, b6, b7, b8, b9, b10⟩ := g_bounds hd h0 h1
  have e1 : (s / d).toInt = s.toInt / d.toInt := l_div h0 (by omega)
  have e2 : (s / d * s).toInt = s.toInt / d.toInt * s.toInt := by rw [l_mul (by rw [e1]; omega) (by rw [e1]; omega), e1]
  have e5 : (s / d + 1).toInt = s.toInt / d.toInt + 1 := by rw [l_add (y := 1) (by rw [e1]; show _ ≤ s.toInt / d.toInt + 1; omega) (by rw [e1]; show s.toInt / d.toInt + 1 ≤ _; omega), e1]; rfl
  have e6 : (s / d * (s / d + 1)).toInt = s.toInt / d.toInt * (s.toInt / d.toInt + 1) := by rw [l_mul (by rw [e1, e5]; omega) (by rw [e1, e5]; omega), e1, e5]
  have e7 : (s / d * (s / d + 1) / 2).toInt = s.toInt / d.toInt * (s.toInt / d.toInt + 1) / 2 := by rw [l_div (y := 2) (by rw [e6]; omega) (by decide), e6]; rfl
  have b11 : 0 ≤ d.toInt * (s.toInt / d.toInt) * (s.toInt / d.toInt + 1) / 2 := Int.ediv_nonneg b9 (by omega)
  have b12 : d.toInt * (s.toInt / d.toInt) * (s.toInt / d.toInt + 1) / 2 ≤ 4000000002000000000 := by omega
  rw [g_half] at b11 b12
  have e8 : (d * (s / d * (s / d + 1) / 2)).toInt = d.toInt * (s.toInt / d.toInt * (s.toInt / d.toInt + 1) / 2) := by rw [l_mul (by rw [e7]; omega) (by rw [e7]; omega), e7]
  have e9 : (s / d * s - d * (s / d * (s / d + 1) / 2)).toInt = s.toInt / d.toInt * s.toInt - d.toInt * (s.toInt / d.toInt * (s.toInt / d.toInt + 1) / 2) := by rw [l_sub (by rw [e2, e8]; omega) (by rw [e2, e8]; omega), e2, e8]
  rw [l_add (by rw [e9]; omega) (by rw [e9]; omega), e9]
  unfold gF
  omega

/-! the places of the words on fields -/
def lyp (ci : Nat) : List (Nat × Nat) := match ci with
  | 0 => [(2, 168), (2, 170)]
  | 1 => [(2, 42), (2, 44), (2, 46), (2, 48), (2, 50), (2, 52), (2, 54), (2, 56), (2, 58)]
  | 2 => [(2, 139), (2, 141), (2, 143), (2, 145), (2, 147), (2, 149), (2, 151), (2, 153), (2, 155), (2, 157)]
  | 3 => [(1, 98), (1, 100), (1, 102), (1, 104), (1, 106), (1, 108), (1, 110), (1, 112), (1, 114), (1, 116), (1, 118), (1, 120), (1, 122), (1, 124), (1, 126), (1, 128), (1, 130), (1, 132), (1, 134), (1, 136), (1, 138)]
  | 4 => [(1, 224), (1, 226), (1, 228), (1, 230), (1, 232), (1, 234), (1, 236), (1, 238), (2, 0), (2, 2), (2, 4), (2, 6), (2, 8), (2, 10), (2, 12), (2, 14), (2, 16), (2, 18), (2, 20), (2, 22)]
  | 5 => [(3, 116), (3, 118), (3, 120), (3, 122), (3, 124), (3, 126), (3, 128), (3, 130), (3, 132), (3, 134), (3, 136), (3, 138), (3, 140), (3, 142)]
  | 6 => [(3, 173), (3, 175), (3, 177), (3, 179), (3, 181), (3, 183), (3, 185), (3, 187), (3, 189), (3, 191), (3, 193), (3, 195), (3, 197), (3, 199), (3, 201)]
  | 7 => [(3, 79), (3, 81), (3, 83), (3, 85), (3, 87), (3, 89), (3, 91), (3, 93)]
  | 8 => [(2, 86), (2, 88), (2, 90), (2, 92), (2, 94), (2, 96), (2, 98), (2, 100), (2, 102), (2, 104), (2, 106), (2, 108), (2, 110), (2, 112), (2, 114), (2, 116), (2, 118), (2, 120)]
  | 9 => [(3, 234), (3, 236), (3, 238), (4, 0), (4, 2), (4, 4), (4, 6), (4, 8), (4, 10), (4, 12), (4, 14), (4, 16), (4, 18), (4, 20), (4, 22), (4, 24), (4, 26)]
  | 10 => [(3, 21), (3, 23), (3, 25), (3, 27), (3, 29), (3, 31), (3, 33), (3, 35), (3, 37), (3, 39), (3, 41), (3, 43), (3, 45), (3, 47), (3, 49), (3, 51), (3, 53), (3, 55), (3, 57)]
  | 11 => [(2, 199), (2, 201), (2, 203), (2, 205), (2, 207), (2, 209), (2, 211), (2, 213), (2, 215), (2, 217), (2, 219), (2, 221), (2, 223), (2, 225), (2, 227), (2, 229), (2, 231), (2, 233)]
  | 12 => [(4, 33), (4, 35), (4, 37), (4, 39)]
  | _ => [(10, 67), (10, 69), (10, 71), (10, 73), (10, 75), (10, 77), (10, 79), (10, 81), (10, 83), (10, 85), (10, 87), (10, 89), (10, 91), (10, 93), (10, 95), (10, 97), (10, 99), (10, 101), (10, 103), (10, 105), (10, 107), (10, 109), (10, 111), (10, 113), (10, 115), (10, 117), (10, 119), (10, 121), (10, 123), (10, 125), (10, 127), (10, 129), (10, 131), (10, 133), (10, 135), (10, 137), (10, 139), (10, 141), (10, 143), (10, 145), (10, 147), (10, 149), (10, 151), (10, 153), (10, 155), (10, 157), (10, 159), (10, 161), (10, 163), (10, 165), (10, 167), (10, 169), (10, 171), (10, 173), (10, 175), (10, 177), (10, 179), (10, 181), (10, 183), (10, 185), (10, 187), (10, 189), (10, 191), (10, 193), (10, 195), (10, 197), (10, 199), (10, 201), (10, 203), (10, 205), (10, 207), (10, 209), (10, 211), (10, 213), (10, 215), (10, 217), (10, 219), (10, 221), (10, 223), (10, 225), (10, 227), (10, 229), (10, 231), (10, 233), (10, 235), (10, 237), (10, 239), (11, 1), (11, 3), (11, 5), (11, 7), (11, 9), (11, 11), (11, 13), (11, 15), (11, 17), (11, 19), (11, 21), (11, 23), (11, 25), (11, 27), (11, 29), (11, 31), (11, 33), (11, 35), (11, 37), (11, 39), (11, 41), (11, 43), (11, 45), (11, 47), (11, 49), (11, 51), (11, 53), (11, 55), (11, 57), (11, 59), (11, 61), (11, 63), (11, 65), (11, 67), (11, 69), (11, 71), (11, 73), (11, 75), (11, 77), (11, 79), (11, 81), (11, 83), (11, 85), (11, 87), (11, 89), (11, 91), (11, 93), (11, 95), (11, 97), (11, 99), (11, 101), (11, 103), (11, 105), (11, 107), (11, 109), (11, 111), (11, 113), (11, 115), (11, 117), (11, 119), (11, 121), (11, 123), (11, 125), (11, 127), (11, 129), (11, 131), (11, 133), (11, 135), (11, 137)]
def ckU (ci : Nat) : Bool := match pcl[ci]? with
  | some q => decide ((lyp ci).length = q.2.2) && (List.range q.2.2).all (fun k => match (lyp ci)[k]? with
    | some z => pw z.1 z.2 (u_lay q.1 q.2.1 k)
    | none => false)
  | none => false
theorem ok_U : (List.range 14).all ckU = true := by decide +kernel
def ckN (ci : Nat) : Bool := match pcl[ci]? with
  | some q => (List.range q.2.2).all (fun k => decide (parseFieldDescriptor (q.2.1 k).2.2.1 = some (pF ci k)) && decide (defaultValue (pF ci k) = vp_V (pdfl ci).2 k)) && (decide ((pdfl ci).1 = q.2.2) && (pdfl ci).2.all (fun v => match v with
    | .ref _ => false
    | .retAddr _ => false
    | _ => true))
  | none => false
theorem ok_N : (List.range 14).all ckN = true := by decide +kernel
def ckE (ci : Nat) : Bool := match pcl[ci]? with
  | some q => (List.range q.2.2).all (fun a => (List.range a).all (fun b => decide ((q.2.1 a).2.1 ≠ (q.2.1 b).2.1)))
  | none => false
theorem ok_E : (List.range 13).all ckE = true := by decide +kernel
theorem ok_E13 : ckE 13 = true := by decide +kernel
theorem pcl_lt {ci : Nat} {q : vw_C} (h : pcl[ci]? = some q) : ci < 14 := (List.getElem?_eq_some_iff.mp h).1
theorem hCl_ok : pm_Cl pTs pcl pF pdfl := by
  intro ci q hq
  have hci := pcl_lt hq
  have h1 := List.all_eq_true.mp ok_U ci (List.mem_range.mpr hci)
  have h2 := List.all_eq_true.mp ok_N ci (List.mem_range.mpr hci)
  have h3 : ckE ci = true := by
    by_cases h : ci < 13
    · exact List.all_eq_true.mp ok_E ci (List.mem_range.mpr h)
    · have e : ci = 13 := by omega
      rw [e]; exact ok_E13
  unfold ckU at h1
  unfold ckN at h2
  unfold ckE at h3
  rw [hq] at h1 h2 h3
  dsimp only at h1 h2 h3
  simp only [Bool.and_eq_true, decide_eq_true_eq] at h1 h2
  obtain ⟨h21, h22, h23⟩ := h2
  refine ⟨fun w hw => ?_, fun k hk => ?_, fun a ha b hb hab => ?_, h22, fun j hj => ?_, fun b x => ?_⟩
  · obtain ⟨k, hk, rfl⟩ := List.mem_map.mp hw
    have h4 := List.all_eq_true.mp h1.2 k hk
    split at h4
    · exact pw_in h4
    · cases h4
  · have h4 := List.all_eq_true.mp h21 k (List.mem_range.mpr hk)
    simp only [Bool.and_eq_true, decide_eq_true_eq] at h4
    exact h4.1
  · have k : ∀ a b : Nat, a < q.2.2 → b < a → (q.2.1 a).2.1 ≠ (q.2.1 b).2.1 := fun a b ha hb => by
      have h4 := List.all_eq_true.mp (List.all_eq_true.mp h3 a (List.mem_range.mpr ha)) b (List.mem_range.mpr hb)
      exact of_decide_eq_true h4
    rcases Nat.lt_or_gt_of_ne hab with h | h
    · exact (k b a hb h).symm
    · exact k a b ha h
  · have h4 := List.all_eq_true.mp h21 j (List.mem_range.mpr hj)
    simp only [Bool.and_eq_true, decide_eq_true_eq] at h4
    exact h4.2
  · conv => rhs; rw [← List.map_id (pdfl ci).2]
    apply List.map_congr_left
    intro v hv
    have h4 := List.all_eq_true.mp h23 v hv
    cases v <;> first | rfl | cases h4

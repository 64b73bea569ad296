/-! ===== the SUM: byte by byte and bit by bit ===== -/
/-- the class's way -/
noncomputable def crx (s b : Int32) : Int32 := (s.toUInt32 >>> ((8 : Int32).toUInt32 &&& Int32.toUInt32 31)).toInt32 ^^^ b
noncomputable def cry (m : Int32) : Int32 := m ^^^ (m.toUInt32 >>> ((4 : Int32).toUInt32 &&& Int32.toUInt32 31)).toInt32
noncomputable def crz (s m : Int32) : Int32 := (((s <<< ((8 : Int32) &&& 31)) ^^^ (m <<< ((12 : Int32) &&& 31))) ^^^ (m <<< ((5 : Int32) &&& 31)) ^^^ m) &&& 65535
noncomputable def crc (s b : Int32) : Int32 := crz s (cry (crx s b))
/-- the same of bits -/
noncomputable def fb1 (x : Bool) (f : Nat → Bool) : Nat → Bool := fun j => decide (j < 16) && ((decide (0 < j) && f (j - 1)) ^^ ((f 15 ^^ x) && (j == 0 || (j == 5 || j == 12))))
noncomputable def fbm (f g : Nat → Bool) : Nat → Bool := fb1 (g 0) (fb1 (g 1) (fb1 (g 2) (fb1 (g 3) (fb1 (g 4) (fb1 (g 5) (fb1 (g 6) (fb1 (g 7) f)))))))
noncomputable def fbx (f g : Nat → Bool) : Nat → Bool := fun j => (decide (j < 24) && f (j + 8)) ^^ g j
noncomputable def fby (m : Nat → Bool) : Nat → Bool := fun j => m j ^^ (decide (j < 28) && m (j + 4))
noncomputable def fbz (f m : Nat → Bool) : Nat → Bool := fun j => decide (j < 16) && ((((decide (8 ≤ j) && f (j - 8)) ^^ (decide (12 ≤ j) && m (j - 12))) ^^ (decide (5 ≤ j) && m (j - 5))) ^^ m j)
theorem fb_eq (f g : Nat → Bool) (hf : ∀ j, 16 ≤ j → f j = false) (hg : ∀ j, 8 ≤ j → g j = false) : ∀ j, j < 16 → fbz f (fby (fbx f g)) j = fbm f g j := by
  intro j hj
  have h16 := hf 16 (by omega)
  have h17 := hf 17 (by omega)
  have h18 := hf 18 (by omega)
  have h19 := hf 19 (by omega)
  have h20 := hf 20 (by omega)
  have h21 := hf 21 (by omega)
  have h22 := hf 22 (by omega)
  have h23 := hf 23 (by omega)
  have h24 := hf 24 (by omega)
  have h25 := hf 25 (by omega)
  have h26 := hf 26 (by omega)
  have h27 := hf 27 (by omega)
  have g8 := hg 8 (by omega)
  have g9 := hg 9 (by omega)
  have g10 := hg 10 (by omega)
  have g11 := hg 11 (by omega)
  have g12 := hg 12 (by omega)
  have g13 := hg 13 (by omega)
  have g14 := hg 14 (by omega)
  have g15 := hg 15 (by omega)
  have g16 := hg 16 (by omega)
  have g17 := hg 17 (by omega)
  have g18 := hg 18 (by omega)
  have g19 := hg 19 (by omega)
  rcases (show j = 0 ∨ j = 1 ∨ j = 2 ∨ j = 3 ∨ j = 4 ∨ j = 5 ∨ j = 6 ∨ j = 7 ∨ j = 8 ∨ j = 9 ∨ j = 10 ∨ j = 11 ∨ j = 12 ∨ j = 13 ∨ j = 14 ∨ j = 15 by omega) with h | h | h | h | h | h | h | h | h | h | h | h | h | h | h | h <;> subst h
  · simp [fbz, fby, fbx, fbm, fb1, h16, h17, h18, h19, h20, h21, h22, h23, h24, h25, h26, h27, g8, g9, g10, g11, g12, g13, g14, g15, g16, g17, g18, g19]
    try (cases f 8 <;> cases f 12 <;> cases g 0 <;> cases g 4 <;> rfl)
  · simp [fbz, fby, fbx, fbm, fb1, h16, h17, h18, h19, h20, h21, h22, h23, h24, h25, h26, h27, g8, g9, g10, g11, g12, g13, g14, g15, g16, g17, g18, g19]
    try (cases f 9 <;> cases f 13 <;> cases g 1 <;> cases g 5 <;> rfl)
  · simp [fbz, fby, fbx, fbm, fb1, h16, h17, h18, h19, h20, h21, h22, h23, h24, h25, h26, h27, g8, g9, g10, g11, g12, g13, g14, g15, g16, g17, g18, g19]
    try (cases f 10 <;> cases f 14 <;> cases g 2 <;> cases g 6 <;> rfl)
  · simp [fbz, fby, fbx, fbm, fb1, h16, h17, h18, h19, h20, h21, h22, h23, h24, h25, h26, h27, g8, g9, g10, g11, g12, g13, g14, g15, g16, g17, g18, g19]
    try (cases f 11 <;> cases f 15 <;> cases g 3 <;> cases g 7 <;> rfl)
  · simp [fbz, fby, fbx, fbm, fb1, h16, h17, h18, h19, h20, h21, h22, h23, h24, h25, h26, h27, g8, g9, g10, g11, g12, g13, g14, g15, g16, g17, g18, g19]
    try (cases f 12 <;> cases g 4 <;> rfl)
  · simp [fbz, fby, fbx, fbm, fb1, h16, h17, h18, h19, h20, h21, h22, h23, h24, h25, h26, h27, g8, g9, g10, g11, g12, g13, g14, g15, g16, g17, g18, g19]
    try (cases f 8 <;> cases f 12 <;> cases f 13 <;> cases g 0 <;> cases g 4 <;> cases g 5 <;> rfl)
  · simp [fbz, fby, fbx, fbm, fb1, h16, h17, h18, h19, h20, h21, h22, h23, h24, h25, h26, h27, g8, g9, g10, g11, g12, g13, g14, g15, g16, g17, g18, g19]
    try (cases f 9 <;> cases f 13 <;> cases f 14 <;> cases g 1 <;> cases g 5 <;> cases g 6 <;> rfl)
  · simp [fbz, fby, fbx, fbm, fb1, h16, h17, h18, h19, h20, h21, h22, h23, h24, h25, h26, h27, g8, g9, g10, g11, g12, g13, g14, g15, g16, g17, g18, g19]
    try (cases f 10 <;> cases f 14 <;> cases f 15 <;> cases g 2 <;> cases g 6 <;> cases g 7 <;> rfl)
  · simp [fbz, fby, fbx, fbm, fb1, h16, h17, h18, h19, h20, h21, h22, h23, h24, h25, h26, h27, g8, g9, g10, g11, g12, g13, g14, g15, g16, g17, g18, g19]
    try (cases f 0 <;> cases f 11 <;> cases f 15 <;> cases g 3 <;> cases g 7 <;> rfl)
  · simp [fbz, fby, fbx, fbm, fb1, h16, h17, h18, h19, h20, h21, h22, h23, h24, h25, h26, h27, g8, g9, g10, g11, g12, g13, g14, g15, g16, g17, g18, g19]
    try (cases f 1 <;> cases f 12 <;> cases g 4 <;> rfl)
  · simp [fbz, fby, fbx, fbm, fb1, h16, h17, h18, h19, h20, h21, h22, h23, h24, h25, h26, h27, g8, g9, g10, g11, g12, g13, g14, g15, g16, g17, g18, g19]
    try (cases f 2 <;> cases f 13 <;> cases g 5 <;> rfl)
  · simp [fbz, fby, fbx, fbm, fb1, h16, h17, h18, h19, h20, h21, h22, h23, h24, h25, h26, h27, g8, g9, g10, g11, g12, g13, g14, g15, g16, g17, g18, g19]
    try (cases f 3 <;> cases f 14 <;> cases g 6 <;> rfl)
  · simp [fbz, fby, fbx, fbm, fb1, h16, h17, h18, h19, h20, h21, h22, h23, h24, h25, h26, h27, g8, g9, g10, g11, g12, g13, g14, g15, g16, g17, g18, g19]
    try (cases f 4 <;> cases f 8 <;> cases f 12 <;> cases f 15 <;> cases g 0 <;> cases g 4 <;> cases g 7 <;> rfl)
  · simp [fbz, fby, fbx, fbm, fb1, h16, h17, h18, h19, h20, h21, h22, h23, h24, h25, h26, h27, g8, g9, g10, g11, g12, g13, g14, g15, g16, g17, g18, g19]
    try (cases f 5 <;> cases f 9 <;> cases f 13 <;> cases g 1 <;> cases g 5 <;> rfl)
  · simp [fbz, fby, fbx, fbm, fb1, h16, h17, h18, h19, h20, h21, h22, h23, h24, h25, h26, h27, g8, g9, g10, g11, g12, g13, g14, g15, g16, g17, g18, g19]
    try (cases f 6 <;> cases f 10 <;> cases f 14 <;> cases g 2 <;> cases g 6 <;> rfl)
  · simp [fbz, fby, fbx, fbm, fb1, h16, h17, h18, h19, h20, h21, h22, h23, h24, h25, h26, h27, g8, g9, g10, g11, g12, g13, g14, g15, g16, g17, g18, g19]
    try (cases f 7 <;> cases f 11 <;> cases f 15 <;> cases g 3 <;> cases g 7 <;> rfl)

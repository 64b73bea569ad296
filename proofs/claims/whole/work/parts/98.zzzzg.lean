set_option maxRecDepth 20000
/-! ===== the searches of one side, on the law's road ===== -/
noncomputable def c_fndT : sC := ((425, 239, 2), ([.long 0], [tr 219, .arg 60000, .arg 60032]), ([], [219, 228, 220, 221]), [((2, .arg 60000, .int 0), false), ((2, .int 65535, .arg 60000), false), ((109, .add (.arg 60000) (.arg 60032), .arg 60192), true)], ([60160], []), (some (.long 0), some (.arg 60192)), [], ([], []))
theorem g_fndT : cgood 65536 c_fndl = true := by decide +kernel
theorem c_fndT_f : cfine zT 65536 c_fndT = true := by decide +kernel
noncomputable def σ_fndT : sM := ([], [])
noncomputable def τ_fndT : sM := ([(60160, .arg 125696)], [])
theorem k_fndT : ruseT 65536 kR zWP c_fndl zT c_fndT (isatP c_fndT.2.2.2.1 c_fndT.2.2.2.2.2.2.2.1) c_fndT.2.2.2.2.2.2.2.1 σ_fndT (sig2 65536 c_fndl.2.2.2.2.1.1 c_fndl.2.2.2.2.1.2 σ_fndT) τ_fndT = true := by decide +kernel
theorem s_fndT {X : pX} : SREL X pF pdfl mt_all kR zT c_fndT := SREL_useT kR_x kR_0 (s_fndl) g_fndT c_fndT_f k_fndT

theorem args3 {X : pX} {ρ : sR} {i s n : Int32} (hv : vok X ρ) : vok X (rset [(60000, i), (60032, s), (60192, n)] ρ) := rset_vok (fun p hp r hr => by
  simp only [List.mem_cons, List.not_mem_nil, or_false] at hp
  rcases hp with rfl | rfl | rfl
  · rw [show vrng 60000 = none from rfl] at hr; cases hr
  · rw [show vrng 60032 = none from rfl] at hr; cases hr
  · rw [show vrng 60192 = none from rfl] at hr; cases hr) (fun p hp => by
  simp only [List.mem_cons, List.not_mem_nil, or_false] at hp
  rcases hp with rfl | rfl | rfl
  · show (60000 : Nat) % 2 = 0; decide
  · show (60032 : Nat) % 2 = 0; decide
  · show (60192 : Nat) % 2 = 0; decide) hv
theorem args3a {ρ : sR} {i s n : Int32} : agr 59000 (rset [(60000, i), (60032, s), (60192, n)] ρ) ρ := rset_agr (fun p hp => by
  simp only [List.mem_cons, List.not_mem_nil, or_false] at hp
  rcases hp with rfl | rfl | rfl
  · show 59000 ≤ 60000; decide
  · show 59000 ≤ 60032; decide
  · show 59000 ≤ 60192; decide)
theorem args3f {X : pX} {ρ : sR} {i s n : Int32} (hv : vok X ρ) (h0 : 0 ≤ i.toInt) (h1 : i.toInt ≤ 65535) (hn : n.toInt = aslot i.toInt s.toInt) : fok X (rset [(60000, i), (60032, s), (60192, n)] ρ) [((2, .arg 60000, .int 0), false), ((2, .int 65535, .arg 60000), false), ((109, .add (.arg 60000) (.arg 60032), .arg 60192), true)] :=
  ⟨args3 hv, fcn (decide_eq_false (nlt_i (show (0 : Int32).toInt ≤ i.toInt from h0))) (fcn (decide_eq_false (nlt_i (show i.toInt ≤ (65535 : Int32).toInt from h1))) (fcn (decide_eq_true (show n.toInt = aslot i.toInt s.toInt from hn)) (fun f hf => by cases hf)))⟩
theorem slot_half {X : pX} {ρ : sR} (hK : kok X ρ kR) (hv : vok X ρ) {Z : sH} {G : pH} {sl d : Nat} (hd : 2 ≤ d) (hR : HR X ρ Z G) {i s n : Int32} (h0 : 0 ≤ i.toInt) (h1 : i.toInt ≤ 65535) (hn : n.toInt = aslot i.toInt s.toInt) : ∃ G' : pH, CALL X pF pdfl mt_all d 214 [.int i, .int s] G sl (.inl (some (.int n)), G', sl) ∧ HR X ρ Z G' := by
  obtain ⟨ρ', ⟨m1, m2⟩, -, -, c1, -⟩ := s_slol (X := X) (rset [(60000, i), (60032, s), (60192, n)] ρ) (rset_kok hK) (args3f hv h0 h1 hn) (fun c hc => by cases hc)
  have nf : ∀ k : Nat, hget (foot zWP ([] : List Nat)) k = none := fun k => by rw [foot_get, if_neg (fun h => by cases h)]
  obtain ⟨G', c, r⟩ := c1 (G, G.length, sl) G ⟨(by show 0 + G.length = G.length; omega), (fun k e hk => by
    have hk : hget (foot zWP ([] : List Nat)) k = some e := hk
    rw [nf] at hk
    cases hk), Nat.le_refl _, fun _ _ _ => rfl⟩
  have hl : G'.length = G.length := by have this : 0 + G.length = G'.length := r.1; omega
  have he : G' = G := List.ext_getElem? (fun k => by
    by_cases hk : k < G.length
    · exact r.2.2.2 k (nf k) hk
    · rw [List.getElem?_eq_none (by omega), List.getElem?_eq_none (by omega)])
  subst he
  have e := (m1 60192 (by decide)).1
  have e2 : ρ'.1 60192 = n := e
  have c : CALL X pF pdfl mt_all 2 214 [.int i, .int s] G' sl (.inl (some (.int (ρ'.1 60192))), G', sl) := c
  rw [e2] at c
  exact ⟨G', CALL_up hd c, hR⟩
theorem find_half {X : pX} {ρ : sR} (hK : kok X ρ kR) (hv : vok X ρ) {Z : sH} {G : pH} {sl d : Nat} (hd : 2 ≤ d) (hR : HR X ρ Z G) (hz : ∀ k ∈ ([219, 228, 220, 221] : List Nat), hget Z k = hget zT k) {i s n : Int32} (h0 : 0 ≤ i.toInt) (h1 : i.toInt ≤ 65535) (hn : n.toInt = aslot i.toInt s.toInt) : ∃ G' : pH, CALL X pF pdfl mt_all d 239 [.ref 219, .int i, .int s] G sl (.inl (some (.int n)), G', sl) ∧ HR X ρ Z G' := by
  obtain ⟨ρ', ⟨m1, m2⟩, -, -, -, c2⟩ := s_fndT (X := X) (rset [(60000, i), (60032, s), (60192, n)] ρ) (rset_kok hK) (args3f hv h0 h1 hn) (fun c hc => by cases hc)
  obtain ⟨G', c, r⟩ := c2 (G, G.length, sl) G ⟨(by show 0 + G.length = G.length; omega), (fun k e hk => by
    have hk : hget (foot zT ([219, 228, 220, 221] : List Nat)) k = some e := hk
    rw [foot_get] at hk
    split at hk
    · next hm =>
      obtain ⟨y, hy, hc⟩ := hR.2.1 k e ((hz k hm).trans hk)
      refine ⟨y, hy, CR_B (B := (rset [(60000, i), (60032, s), (60192, n)] ρ).2.2.2.2) (zT_cr (ρ1 := ρ) ⟨fun j hj => ⟨(args3a.1 j hj).1.symm, (args3a.1 j hj).2.symm⟩, fun a ha => ⟨(args3a.2 a ha).1.symm, (args3a.2 a ha).2.symm⟩⟩ hk hc)⟩
    · cases hk), Nat.le_refl _, fun _ _ _ => rfl⟩
  have r : HR X (rwB ρ' (G, G.length, sl)) (foot zT ([219, 228, 220, 221] : List Nat)) G' := r
  have hl : G'.length = G.length := by have this : 0 + G.length = G'.length := r.1; omega
  have same : ∀ k, hget (foot zT ([219, 228, 220, 221] : List Nat)) k = none → k < G.length → G'[k]? = G[k]? := fun k hk hlt => r.2.2.2 k hk hlt
  have back : ∀ k e, k ∈ ([219, 228, 220, 221] : List Nat) → hget zT k = some e → ∃ y : pE, G'[k]? = some (some y) ∧ CR X ρ e y := fun k e hm hk => by
    obtain ⟨y, hy, hc⟩ := r.2.1 k e (by rw [foot_get, if_pos hm]; exact hk)
    have hc : CR X ρ' e y := CR_B (B' := ρ'.2.2.2.2) hc
    have hc := mix_CR (ma := []) (ρ := rset [(60000, i), (60032, s), (60192, n)] ρ) m2 (hall_get zT_arr hk) hc
    refine ⟨y, hy, zT_cr (ρ1 := rmixA [] ρ' (rset [(60000, i), (60032, s), (60192, n)] ρ)) ⟨fun j hj => ?_, fun a ha => ⟨show (if a ∈ ([] : List Nat) then ρ'.2.2.1 a else ρ.2.2.1 a) = ρ.2.2.1 a from if_neg (fun h => by cases h), show (if a ∈ ([] : List Nat) then ρ'.2.2.2.1 a else ρ.2.2.2.1 a) = ρ.2.2.2.1 a from if_neg (fun h => by cases h)⟩⟩ hk hc⟩
    have e := m1 j (fun h => by have h : j = 60160 := List.mem_singleton.mp h; omega)
    exact ⟨e.1.trans (args3a.1 j hj).1, e.2.trans (args3a.1 j hj).2⟩
  refine ⟨G', CALL_up hd ?_, ⟨by rw [hl]; exact hR.1, fun k e hk => ?_, by rw [hl]; exact hR.2.2.1, fun k hk hlt => ?_⟩⟩
  · have e := (m1 60192 (by decide)).1
    have e2 : ρ'.1 60192 = n := e
    have c : CALL X pF pdfl mt_all 2 239 [.ref 219, .int i, .int s] G sl (.inl (some (.int (ρ'.1 60192))), G', sl) := c
    rw [e2] at c
    exact c
  · by_cases hm : k ∈ ([219, 228, 220, 221] : List Nat)
    · exact back k e hm ((hz k hm).symm.trans hk)
    · obtain ⟨y, hy, hc⟩ := hR.2.1 k e hk
      exact ⟨y, (same k (by rw [foot_get, if_neg hm]) (List.getElem?_eq_some_iff.mp hy).1).trans hy, hc⟩
  · have hn2 : hget (foot zT ([219, 228, 220, 221] : List Nat)) k = none := by
      rw [foot_get]
      split
      · next hm => rw [← hz k hm]; exact hk
      · rfl
    exact (same k hn2 (Nat.lt_of_lt_of_le hlt hR.2.2.1)).trans (hR.2.2.2 k hk hlt)
/-- the state behind a search, where the next thing is one -/
noncomputable def zNS : sT := .arg 59872
noncomputable def isst (i : Instr) : Bool := match i with
  | .invokestatic _ => true
  | _ => false
noncomputable def isvi (i : Instr) : Bool := match i with
  | .invokevirtual _ => true
  | _ => false
noncomputable def clS (s : sS) : Option sS := match s with
  | ((k, nL, ret, hs, full, cur, lv, st), fs, d, Z, sl) => match cur with
    | (pc, ins, len, r1, r2, r3) :: tail => bif Nat.beq r1 214 && (isst ins && (decide (r3 = 0) && (Nat.beq r2 2 && (!(Nat.beq k 2) && (!(fs.isEmpty) && Nat.ble 2 d))))) then match sargs r2 st, pm_to full tail pc len none with
        | some (a :: b :: [], rest), some cur' => bif tqe a (scT 2) && tqe b (scT 3) then some ((k, nL, ret, hs, full, cur', lv, zNS :: rest), fs, d, Z, sl) else none
        | _, _ => none
      else none
    | [] => none
noncomputable def clM (s : sS) : Option sS := match s with
  | ((k, nL, ret, hs, full, cur, lv, st), fs, d, Z, sl) => match cur with
    | (pc, ins, len, r1, r2, r3) :: tail => bif Nat.beq r1 239 && (isvi ins && (decide (r3 = 13) && (Nat.beq r2 3 && (!(Nat.beq k 2) && (!(fs.isEmpty) && (Nat.ble 2 d && ([219, 228, 220, 221] : List Nat).all (fun k => eqO (hget Z k) (hget zT k)))))))) then match sargs r2 st, pm_to full tail pc len none with
        | some (o :: a :: b :: [], rest), some cur' => bif tqe o (tr 219) && (tqe a (scT 2) && tqe b (scT 3)) then some ((k, nL, ret, hs, full, cur', lv, zNS :: rest), fs, d, Z, sl) else none
        | _, _ => none
      else none
    | [] => none
section HALF
variable {L : Nat} {xs : Nat → Int32}
/-- what is known of the number that both searches find -/
noncomputable def NSP (L : Nat) (xs : Nat → Int32) (ρ : sR) : Prop := (0 ≤ (sd (pXs L xs) ρ (scT 2)).1.toInt ∧ (sd (pXs L xs) ρ (scT 2)).1.toInt ≤ 65535) ∧ (ρ.1 59872).toInt = aslot (sd (pXs L xs) ρ (scT 2)).1.toInt (sd (pXs L xs) ρ (scT 3)).1.toInt
theorem cI_half {C : List pOp} {f f' : sF} {fs : List sF} {d d' : Nat} {Z Z' : sH} {sl sl' : Nat} (hne : fs.isEmpty = false) (h : cI C (f, fs, d, Z, sl)) : cI C (f', fs, d', Z', sl') := by
  obtain ⟨g, h1, h2⟩ := h
  cases fs with
  | nil => cases hne
  | cons a r => exact ⟨g, by rw [List.getLast?_cons_cons] at h1 ⊢; exact h1, h2⟩
theorem clS_ok {s s' : sS} {ρ : sR} (hK : kok (pXs L xs) ρ kR) (hv : vok (pXs L xs) ρ) (hn : NSP L xs ρ) (h : clS s = some s') (hc : cI mo_455 s) : cI mo_455 s' ∧ (GPL L xs ρ s' → GPL L xs ρ s) := by
  obtain ⟨⟨k, nL, ret, hs, full, cur, lv, st⟩, fs, d, Z, sl⟩ := s
  unfold clS at h
  dsimp only at h
  split at h
  · next pc ins len r1 r2 r3 tail =>
    rw [cond_eq_ite] at h
    split at h
    · next hq =>
      simp only [Bool.and_eq_true, Bool.not_eq_true', decide_eq_true_eq, Nat.ble_eq] at hq
      obtain ⟨q1, q2, q3, q4, q5, q6, q7⟩ := hq
      split at h
      · next a b rest cur' ha hto =>
        rw [cond_eq_ite] at h
        split at h
        · next ht =>
          cases h
          rw [Bool.and_eq_true] at ht
          have ea := tqe_ok _ _ ht.1
          have eb := tqe_ok _ _ ht.2
          have e1 := Nat.eq_of_beq_eq_true q1
          have e2 := Nat.eq_of_beq_eq_true q4
          subst e1 e2 ea eb q3
          refine ⟨cI_half q6 hc, fun hg G hR => ?_⟩
          obtain ⟨G', c, hR'⟩ := slot_half (X := pXs L xs) hK hv (sl := sl + rS ρ) q7 hR hn.1.1 hn.1.2 hn.2
          obtain ⟨i, rfl⟩ : ∃ i, ins = .invokestatic i := by
            unfold isst at q2
            split at q2
            · next i => exact ⟨i, rfl⟩
            · cases q2
          have hk : ¬ k = 2 := fun e => by rw [e] at q5; cases q5
          have ask : pm_ask (.invokestatic i) 2 0 (dS (pXs L xs) ρ st) G = some ([.int (sd (pXs L xs) ρ (scT 2)).1, .int (sd (pXs L xs) ρ (scT 3)).1], dS (pXs L xs) ρ rest) := by
            unfold pm_ask
            dsimp only
            rw [if_neg (by decide), if_neg (by decide), sargs_ok ha]
            show some ([sv (pXs L xs) ρ (scT 2), sv (pXs L xs) ρ (scT 3)], _) = _
            rw [sv_int (t := scT 2) rfl, sv_int (t := scT 3) rfl]
          refine GG_call (ρ1 := ρ) (v := some (.int (ρ.1 59872))) (lv1 := lv) (st1 := zNS :: rest) (fs1 := fs) hk rfl ask (Or.inl ⟨i, rfl, by decide⟩) hto c rfl rfl ?_ (hg G' hR')
          show sv (pXs L xs) ρ (.arg 59872) :: dS (pXs L xs) ρ rest = _
          rw [sv_int rfl]
          rfl
        · cases h
      · cases h
    · cases h
  · cases h
theorem z219T : ∃ vs, hget zT 219 = some (.inr (13, vs)) := by
  obtain ⟨vs, h⟩ := z219
  rw [zLw_get, if_neg (by decide)] at h
  exact ⟨vs, h⟩
theorem clM_ok {s s' : sS} {ρ : sR} (hK : kok (pXs L xs) ρ kR) (hv : vok (pXs L xs) ρ) (hn : NSP L xs ρ) (h : clM s = some s') (hc : cI mo_455 s) : cI mo_455 s' ∧ (GPL L xs ρ s' → GPL L xs ρ s) := by
  obtain ⟨⟨k, nL, ret, hs, full, cur, lv, st⟩, fs, d, Z, sl⟩ := s
  unfold clM at h
  dsimp only at h
  split at h
  · next pc ins len r1 r2 r3 tail =>
    rw [cond_eq_ite] at h
    split at h
    · next hq =>
      simp only [Bool.and_eq_true, Bool.not_eq_true', decide_eq_true_eq, Nat.ble_eq] at hq
      obtain ⟨q1, q2, q3, q4, q5, q6, q7, q8⟩ := hq
      split at h
      · next o a b rest cur' ha hto =>
        rw [cond_eq_ite] at h
        split at h
        · next ht =>
          cases h
          rw [Bool.and_eq_true, Bool.and_eq_true] at ht
          have eo := tqe_ok _ _ ht.1
          have ea := tqe_ok _ _ ht.2.1
          have eb := tqe_ok _ _ ht.2.2
          have e1 := Nat.eq_of_beq_eq_true q1
          have e2 := Nat.eq_of_beq_eq_true q4
          subst e1 e2 ea eb q3 eo
          refine ⟨cI_half q6 hc, fun hg G hR => ?_⟩
          have hz : ∀ k ∈ ([219, 228, 220, 221] : List Nat), hget Z k = hget zT k := fun k hk => eqO_ok (List.all_eq_true.mp q8 k hk)
          obtain ⟨G', c, hR'⟩ := find_half (X := pXs L xs) hK hv (sl := sl + rS ρ) q7 hR hz hn.1.1 hn.1.2 hn.2
          obtain ⟨i, rfl⟩ : ∃ i, ins = .invokevirtual i := by
            unfold isvi at q2
            split at q2
            · next i => exact ⟨i, rfl⟩
            · cases q2
          have hk : ¬ k = 2 := fun e => by rw [e] at q5; cases q5
          obtain ⟨vs, z19⟩ := z219T
          obtain ⟨y, hy, hcy⟩ := hR.2.1 219 _ ((hz 219 (by decide)).trans z19)
          have recv : pm_recv (13 : Int).toNat G [.ref 219, .int (sd (pXs L xs) ρ (scT 2)).1, .int (sd (pXs L xs) ρ (scT 3)).1] = true := by
            unfold pm_recv
            dsimp only
            rw [hy]
            cases y with
            | inl _ => exact hcy.elim
            | inr o =>
              have hcy : o = (13, vs.map (sv (pXs L xs) ρ)) := hcy
              rw [hcy]
              rfl
          have ask : pm_ask (.invokevirtual i) 3 13 (dS (pXs L xs) ρ st) G = some ([.ref 219, .int (sd (pXs L xs) ρ (scT 2)).1, .int (sd (pXs L xs) ρ (scT 3)).1], dS (pXs L xs) ρ rest) := by
            have e : dS (pXs L xs) ρ [tr 219, scT 2, scT 3] = [.ref 219, .int (sd (pXs L xs) ρ (scT 2)).1, .int (sd (pXs L xs) ρ (scT 3)).1] := by
              show [Value.ref 219, sv (pXs L xs) ρ (scT 2), sv (pXs L xs) ρ (scT 3)] = _
              rw [sv_int (t := scT 2) rfl, sv_int (t := scT 3) rfl]
            simp only [pm_ask, sargs_ok ha]
            rw [e, if_pos recv]
          refine GG_call (ρ1 := ρ) (v := some (.int (ρ.1 59872))) (lv1 := lv) (st1 := zNS :: rest) (fs1 := fs) hk rfl ask (Or.inr (Or.inr ⟨i, rfl⟩)) hto c rfl rfl ?_ (hg G' hR')
          show sv (pXs L xs) ρ (.arg 59872) :: dS (pXs L xs) ρ rest = _
          rw [sv_int rfl]
          rfl
        · cases h
      · cases h
    · cases h
  · cases h
noncomputable def lf2 (n : Nat) (F : sFs) (s : sS) : Bool := sBkP F s || (match clM s with
  | some s' => srun ysN pF pdfl mt_all hlp kR sBkP n F s'
  | none => false)
noncomputable def lf1 (n : Nat) (F : sFs) (s : sS) : Bool := sBkP F s || (match clS s with
  | some s' => srun ysN pF pdfl mt_all hlp kR (lf2 n) n F s'
  | none => false)
/-- a road with the class's search, then the model's: back at the head -/
noncomputable def lrowC (j n : Nat) (F : sFs) : Bool := srun ysN pF pdfl mt_all hlp kR (lf1 n) n F (zLn j)
theorem lrowC_ok {j n : Nat} {F : sFs} {ρ : sR} (hL : L ≤ 3073) (hB : LBP L ρ) (hi : (ρ.1 59744).toInt + 6 ≤ L) (IH : LHP L xs ((ρ.1 59744).toInt + 6)) (hK : kok (pXs L xs) ρ kR) (hF : fok (pXs L xs) ρ F) (hp : PT (pXs L xs) (40 * (ρ.1 59744).toInt) ρ) (hn : NSP L xs ρ) (h : lrowC j n F = true) : GPL L xs ρ (zLn j) := by
  have h0 : ∀ F s, fok (pXs L xs) ρ F → cI mo_455 s → sBkP F s = true → GPL L xs ρ s := fun F s hF hcI h => sBkP_ok hcI hL hB hi IH hK hF (by omega) hp h
  have h2 : ∀ F s, fok (pXs L xs) ρ F → cI mo_455 s → lf2 n F s = true → GPL L xs ρ s := fun F s hF hcI h => by
    rcases (Bool.or_eq_true _ _).mp h with h | h
    · exact h0 F s hF hcI h
    · split at h
      · next s' hs =>
        obtain ⟨c1, c2⟩ := clM_ok hK hF.1 hn hs hcI
        exact c2 (srunI_ok (C := mo_455) flN (PE_back L xs) hK h0 n F s' h hF c1)
      · cases h
  have h1 : ∀ F s, fok (pXs L xs) ρ F → cI mo_455 s → lf1 n F s = true → GPL L xs ρ s := fun F s hF hcI h => by
    rcases (Bool.or_eq_true _ _).mp h with h | h
    · exact h0 F s hF hcI h
    · split at h
      · next s' hs =>
        obtain ⟨c1, c2⟩ := clS_ok hK hF.1 hn hs hcI
        exact c2 (srunI_ok (C := mo_455) flN (PE_back L xs) hK h2 n F s' h hF c1)
      · cases h
  exact srunI_ok (C := mo_455) flN (PE_back L xs) hK h1 n F (zLn j) h hF (zLcI j)
/-- the searches' number set -/
theorem zLw_v5 : hall (vltE 59872) 9 zLw.1 = true := by decide +kernel
theorem set_agr {ρ : sR} {n : Int32} : agr 59872 (rset [(59872, n)] ρ) ρ := rset_agr (fun p hp => by rw [List.mem_singleton.mp hp]; exact Nat.le_refl _)
theorem GP_set {ρ : sR} {n : Int32} {j : Nat} (h : GPL L xs (rset [(59872, n)] ρ) (zLn j)) : GPL L xs ρ (zLn j) := fun G hR => by
  have ag := set_agr (ρ := ρ) (n := n)
  have g := h G ⟨hR.1, fun k e hk => by
    obtain ⟨y, hy, hc⟩ := hR.2.1 k e hk
    exact ⟨y, hy, CR_agr ⟨fun i hi => ⟨(ag.1 i hi).1.symm, (ag.1 i hi).2.symm⟩, fun a ha => ⟨(ag.2 a ha).1.symm, (ag.2 a ha).2.symm⟩⟩ (hall_get zLw_v5 hk) hc⟩, hR.2.2.1, hR.2.2.2⟩
  have e1 : dL (pXs L xs) (rset [(59872, n)] ρ) zLv = dL (pXs L xs) ρ zLv := nod_dL (V := fun i => Nat.beq i 59872) (R := fun _ => false) ⟨fun i hi => ⟨rset_no (fun p hp e => by
    rw [List.mem_singleton.mp hp] at e
    have e : 59872 = i := e
    subst e
    cases hi), rfl⟩, fun a _ => ⟨rfl, rfl⟩⟩ (by decide +kernel)
  have g : GG (pXs L xs) pF pdfl mt_all lwN (PE L xs) (rset [(59872, n)] ρ) (2, 8, some .boolean, [], mo_455, mo_455.drop j, zLv, []) [] 20 (103275 + rS ρ) G := g
  show GG (pXs L xs) pF pdfl mt_all lwN (PE L xs) ρ (2, 8, some .boolean, [], mo_455, mo_455.drop j, zLv, []) [] 20 (103275 + rS ρ) G
  unfold GG at g ⊢
  dsimp only at g ⊢
  rw [if_pos rfl] at g ⊢
  intro hl
  have g := g hl
  rw [e1] at g
  exact g
end HALF

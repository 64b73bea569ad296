/-! ===== two rows of numbers that are alike become one ===== -/
section SHARE
variable {X : pX} {Ft : Nat → Nat → FieldType} {dfl : Nat → Nat × List Value} {Mt : List pM} {K : sK}
noncomputable def rsI (g : Nat) (h : Nat → Int32) (ρ : sR) : sR := (ρ.1, ρ.2.1, fun a => if a = g then h else ρ.2.2.1 a, ρ.2.2.2)
theorem rsI_vok {g s : Nat} {ρ σ : sR} (hv : vok X ρ) (hw : vok X σ) (hg : g % 2 = 0) (hs : s % 2 = 0) (hn : vrng g = vrng s) : vok X (rsI g (σ.2.2.1 s) ρ) := by
  refine ⟨fun i r hr => hv.1 i r hr, fun a t r hr => ?_⟩
  by_cases ha : a = g
  · rw [ha] at hr ⊢
    have e : sn X (rsI g (σ.2.2.1 s) ρ) (.elem (.arg g) t) = sn X σ (.elem (.arg s) (.int (sd X (rsI g (σ.2.2.1 s) ρ) t).1)) := by
      have k1 : ¬ sk (.elem (.arg g) t) = 1 := by show ¬ g % 2 = 1; omega
      have k2 : ¬ sk (.elem (.arg s) (.int (sd X (rsI g (σ.2.2.1 s) ρ) t).1)) = 1 := by show ¬ s % 2 = 1; omega
      unfold sn
      rw [if_neg k1, if_neg k2]
      show ((if g = g then σ.2.2.1 s else ρ.2.2.1 g) _).toInt = _
      rw [if_pos rfl]
      rfl
    rw [e]
    exact hw.2 s _ r (hn ▸ hr)
  · have e : sn X (rsI g (σ.2.2.1 s) ρ) (.elem (.arg a) t) = sn X ρ (.elem (.arg a) (.int (sd X (rsI g (σ.2.2.1 s) ρ) t).1)) := by
      show (if sk (.elem (.arg a) t) = 1 then _ else ((if a = g then σ.2.2.1 s else ρ.2.2.1 a) _).toInt) = _
      rw [if_neg ha]
      rfl
    rw [e]
    exact hv.2 a _ r hr
theorem rsI_pq {p q : Nat} {f : Nat → Int32} {ρ : sR} (h : ¬ p = q) : (rsI q f (rsI p f ρ)).2.2.1 p = (rsI q f (rsI p f ρ)).2.2.1 q := by
  have q1 : (rsI q f (rsI p f ρ)).2.2.1 p = f := (if_neg h).trans (if_pos rfl)
  have q2 : (rsI q f (rsI p f ρ)).2.2.1 q = f := if_pos rfl
  rw [q1, q2]
noncomputable def blkT (D n b c : Nat) : sT := .old (.add (.sub (.arg D) (.index n)) (.add (.mul (.sub (.index 0) (.index n)) (.index b)) (.index c)))
noncomputable def zSh (Z : sH) (k km D n c len m p q : Nat) : sH := hset (hset Z k (some (.inl (0, len, .arg p, [])))) km (some (.inl (0, m, blkT D n q c, [])))
theorem blk_v {ρ : sR} {D n b c : Nat} (hb : b % 2 = 0) (hc : c % 2 = 0) (hn : 0 < n) (j : Nat) : bden X ρ (blkT D n b c) j = .int (if (ρ.1 D).toNatClampNeg * n ≤ j ∧ j < (ρ.1 D).toNatClampNeg * n + n then ρ.2.2.1 b (j - (ρ.1 D).toNatClampNeg * n) else ρ.2.2.1 c j) := by
  show (if (ρ.1 D).toNatClampNeg * n ≤ j ∧ j < (ρ.1 D).toNatClampNeg * n + n then rden ρ 0 n (.index b) (j - (ρ.1 D).toNatClampNeg * n) else if c % 2 = 1 then Value.long (ρ.2.2.2.1 c j) else Value.int (ρ.2.2.1 c j)) = _
  by_cases hi : (ρ.1 D).toNatClampNeg * n ≤ j ∧ j < (ρ.1 D).toNatClampNeg * n + n
  · rw [if_pos hi, if_pos hi]
    have hz : (j - (ρ.1 D).toNatClampNeg * n) / n = 0 := Nat.div_eq_of_lt (by omega)
    unfold rden
    rw [hz]
    show (if b % 2 = 1 then _ else Value.int (cmap 0 (ρ.2.2.1 b ((j - (ρ.1 D).toNatClampNeg * n) % n)))) = _
    rw [if_neg (by omega), Nat.mod_eq_of_lt (by omega)]
    rfl
  · rw [if_neg hi, if_neg hi, if_neg (by omega)]
theorem SREL_share {Z : sH} {C C' : sC} {p q s k km D n c len m : Nat} (hs : SREL X Ft dfl Mt K (zSh Z k km D n c len m p q) C) (hk0 : ∀ a l, K.2.2.1 a = some l → a < 1000) (hx : K.2.2.2 = false) (hp0 : 1000 ≤ p) (hq0 : 1000 ≤ q) (hvp : vrng p = vrng s) (hvq : vrng q = vrng s) (ep : p % 2 = 0) (eq_ : q % 2 = 0) (es : s % 2 = 0) (ec : c % 2 = 0) (hpq : ¬ p = q) (hps : ¬ p = s) (hqs : ¬ q = s) (hcc : ¬ c = p ∧ ¬ c = q ∧ ¬ c = s) (hn : 0 < n)
    (hZ : hget Z k = some (.inl (0, len, .arg s, []))) (hZm : hget Z km = some (.inl (0, m, blkT D n s c, []))) (hk : k < 512) (hkm : km < 512) (hkk : ¬ k = km) (hk2 : k ∉ C.2.2.1.2) (hk1 : km ∉ C.2.2.1.1)
    (hid : C'.1 = C.1) (harg : C'.2.1 = C.2.1) (hcel : C'.2.2.1 = C.2.2.1) (han : C'.2.2.2.2.2.1 = C.2.2.2.2.2.1)
    (hA : (C.2.1.1 ++ C.2.1.2).all (nod (fun _ => false) (fun i => i == p || (i == q || i == s))) = true) (hB : (C.2.2.2.2.2.1.1.toList ++ C.2.2.2.2.2.1.2.toList).all (nod (fun _ => false) (fun i => i == p || (i == q || i == s))) = true) (h1 : C.2.2.1.1.all (fun c => c == k || nodO (fun _ => false) (fun i => i == p || (i == q || i == s)) (hget Z c)) = true) (h2 : C.2.2.1.2.all (fun c => c == km || nodO (fun _ => false) (fun i => i == p || (i == q || i == s)) (hget Z c)) = true)
    (hm : ∀ i, i ∉ C'.2.2.2.2.1.1 → i ∉ C.2.2.2.2.1.1) (hma : ∀ x, x ∉ C'.2.2.2.2.1.2 → x ∉ C.2.2.2.2.1.2 ∧ ¬ x = p ∧ ¬ x = q ∧ ¬ x = s)
    (hp : ∀ ρ : sR, kok X ρ K → fok X ρ C'.2.2.2.1 → iok X ρ C'.2.2.2.2.2.2.2.1 → fall X (rsI q (ρ.2.2.1 s) (rsI p (ρ.2.2.1 s) ρ)) C.2.2.2.1 ∧ iok X (rsI q (ρ.2.2.1 s) (rsI p (ρ.2.2.1 s) ρ)) C.2.2.2.2.2.2.2.1)
    (hq : ∀ ρ2 : sR, fok X ρ2 C.2.2.2.2.2.2.1 → iok X ρ2 C.2.2.2.2.2.2.2.2 → (∀ j, j < n → ρ2.2.2.1 p j = ρ2.2.2.1 q j) ∧ fall X (rsI s (ρ2.2.2.1 p) ρ2) C'.2.2.2.2.2.2.1 ∧ iok X (rsI s (ρ2.2.2.1 p) ρ2) C'.2.2.2.2.2.2.2.2) : SREL X Ft dfl Mt K Z C' := by
  refine SREL_via hs hid (fun ρ kk ff ii => ?_)
  obtain ⟨f1, i1⟩ := hp ρ kk ff ii
  have gne : ∀ x, ¬ x = k → ¬ x = km → hget (zSh Z k km D n c len m p q) x = hget Z x := fun x q1 q2 => (hget_ne (fun e => q2 e.symm)).trans (hget_ne (fun e => q1 e.symm))
  have gk : hget (zSh Z k km D n c len m p q) k = some (.inl (0, len, .arg p, [])) := (hget_ne (fun e => hkk e.symm)).trans (hget_self hk)
  have gm : hget (zSh Z k km D n c len m p q) km = some (.inl (0, m, blkT D n q c, [])) := hget_self hkm
  have dm : ∀ x, hget (zSh Z k km D n c len m p q) x = none ↔ hget Z x = none := fun x => by
    by_cases q1 : x = k
    · rw [q1, gk, hZ]; simp
    · by_cases q2 : x = km
      · rw [q2, gm, hZm]; simp
      · rw [gne x q1 q2]
  have al1 : alk (fun _ => false) (fun i => i == p || (i == q || i == s)) (rsI q (ρ.2.2.1 s) (rsI p (ρ.2.2.1 s) ρ)) ρ := ⟨fun i _ => ⟨rfl, rfl⟩, fun x hx => by
    simp only [Bool.or_eq_false_iff, beq_eq_false_iff_ne, ne_eq] at hx
    exact ⟨(if_neg hx.2.1).trans (if_neg hx.1), rfl⟩⟩
  have vp : (rsI q (ρ.2.2.1 s) (rsI p (ρ.2.2.1 s) ρ)).2.2.1 p = ρ.2.2.1 s := (if_neg hpq).trans (if_pos rfl)
  have vq : (rsI q (ρ.2.2.1 s) (rsI p (ρ.2.2.1 s) ρ)).2.2.1 q = ρ.2.2.1 s := if_pos rfl
  have vc : (rsI q (ρ.2.2.1 s) (rsI p (ρ.2.2.1 s) ρ)).2.2.1 c = ρ.2.2.1 c := (if_neg hcc.2.1).trans (if_neg hcc.1)
  have kk1 : kok X (rsI q (ρ.2.2.1 s) (rsI p (ρ.2.2.1 s) ρ)) K := ⟨kk.1, kk.2.1, fun x l hl j => ⟨by
    have hl2 := hk0 x l hl
    show (if x = q then ρ.2.2.1 s else if x = p then ρ.2.2.1 s else ρ.2.2.1 x) j = _
    rw [if_neg (by omega), if_neg (by omega)]
    exact (kk.2.2.1 x l hl j).1, (kk.2.2.1 x l hl j).2⟩, fun e => by rw [hx] at e; cases e⟩
  have argE : ∀ L : List sT, L.all (nod (fun _ => false) (fun i => i == p || (i == q || i == s))) = true → dS X (rsI q (ρ.2.2.1 s) (rsI p (ρ.2.2.1 s) ρ)) L = dS X ρ L := fun L hL => List.map_congr_left (fun t ht => nod_v al1 (List.all_eq_true.mp hL t ht))
  rw [List.all_append, Bool.and_eq_true] at hA hB
  have vok1 : vok X (rsI q (ρ.2.2.1 s) (rsI p (ρ.2.2.1 s) ρ)) := rsI_vok (rsI_vok ff.1 ff.1 ep es hvp) ff.1 eq_ es hvq
  refine ⟨rsI q (ρ.2.2.1 s) (rsI p (ρ.2.2.1 s) ρ), kk1, ⟨vok1, f1⟩, i1, ?_, ?_, ?_, ?_, ?_⟩
  · rw [harg]; exact argE _ hA.1
  · rw [harg]; exact argE _ hA.2
  · intro B G hR
    rw [hcel] at hR
    refine HR_view (ρ1 := ρ) (ρ2 := rsI q (ρ.2.2.1 s) (rsI p (ρ.2.2.1 s) ρ)) (fun c _ q => (dm c).mp q) (fun x hc e1 e2 y g1 g2 hy => ?_) (fun c _ q => (dm c).mpr q) hR
    by_cases hck : x = k
    · rw [hck, hZ] at g1
      rw [hck, gk] at g2
      cases g1
      cases g2
      cases y with
      | inr z => exact hy.elim
      | inl z =>
        obtain ⟨q1, q2, q3, q4⟩ := hy
        refine ⟨q1, q2, fun j hj => ?_, fun u hu => by cases hu⟩
        rw [q3 j hj]
        show (if s % 2 = 1 then _ else Value.int (ρ.2.2.1 s j)) = (if p % 2 = 1 then _ else Value.int ((rsI q (ρ.2.2.1 s) (rsI p (ρ.2.2.1 s) ρ)).2.2.1 p j))
        rw [if_neg (by omega), if_neg (by omega), vp]
    · have hxm : ¬ x = km := fun e => hk1 (e ▸ hc)
      rw [gne x hck hxm] at g2
      rw [g1] at g2
      cases g2
      have hc2 := List.all_eq_true.mp h1 x hc
      rw [Bool.or_eq_true] at hc2
      have hc3 := hc2.resolve_left (by simpa using hck)
      rw [g1] at hc3
      exact nod2_CR (alk_symm al1) hc3 hy
  · intro B G hR
    rw [hcel] at hR
    refine HR_view (ρ1 := ρ) (ρ2 := rsI q (ρ.2.2.1 s) (rsI p (ρ.2.2.1 s) ρ)) (fun c _ q => (dm c).mp q) (fun x hc e1 e2 y g1 g2 hy => ?_) (fun c _ q => (dm c).mpr q) hR
    have hck : ¬ x = k := fun e => hk2 (e ▸ hc)
    by_cases hxm : x = km
    · rw [hxm, hZm] at g1
      rw [hxm, gm] at g2
      cases g1
      cases g2
      cases y with
      | inr z => exact hy.elim
      | inl z =>
        obtain ⟨q1, q2, q3, q4⟩ := hy
        refine ⟨q1, q2, fun j hj => ?_, fun u hu => by cases hu⟩
        rw [q3 j hj]
        show bden X ρ (blkT D n s c) j = bden X (rsI q (ρ.2.2.1 s) (rsI p (ρ.2.2.1 s) ρ)) (blkT D n q c) j
        rw [blk_v es ec hn, blk_v eq_ ec hn, vq, vc]
        rfl
    · rw [gne x hck hxm] at g2
      rw [g1] at g2
      cases g2
      have hc2 := List.all_eq_true.mp h2 x hc
      rw [Bool.or_eq_true] at hc2
      have hc3 := hc2.resolve_left (by simpa using hxm)
      rw [g1] at hc3
      exact nod2_CR (alk_symm al1) hc3 hy
  · intro ρ2 hkeep f2 i2
    obtain ⟨he, f3, i3⟩ := hq ρ2 f2 i2
    have al2 : alk (fun _ => false) (fun i => i == p || (i == q || i == s)) (rsI s (ρ2.2.2.1 p) ρ2) ρ2 := ⟨fun i hi => ⟨rfl, rfl⟩, fun x hx => by
      simp only [Bool.or_eq_false_iff, beq_eq_false_iff_ne, ne_eq] at hx
      exact ⟨if_neg hx.2.2, rfl⟩⟩
    have ws : (rsI s (ρ2.2.2.1 p) ρ2).2.2.1 s = ρ2.2.2.1 p := if_pos rfl
    have wc : (rsI s (ρ2.2.2.1 p) ρ2).2.2.1 c = ρ2.2.2.1 c := if_neg hcc.2.2
    refine ⟨rsI s (ρ2.2.2.1 p) ρ2, ⟨fun i hi => hkeep.1 i (hm i hi), fun x hx j => ?_⟩, ⟨rsI_vok f2.1 f2.1 es ep hvp.symm, f3⟩, i3, ?_, ?_, ?_, ?_⟩
    · obtain ⟨q1, q2, q3, q4⟩ := hma x hx
      have k1 := hkeep.2 x q1 j
      have e1 : bden X (rsI s (ρ2.2.2.1 p) ρ2) (.arg x) j = bden X ρ2 (.arg x) j := by
        show (if x % 2 = 1 then _ else Value.int ((if x = s then ρ2.2.2.1 p else ρ2.2.2.1 x) j)) = _
        rw [if_neg q4]
        rfl
      have e2 : bden X (rsI q (ρ.2.2.1 s) (rsI p (ρ.2.2.1 s) ρ)) (.arg x) j = bden X ρ (.arg x) j := by
        show (if x % 2 = 1 then _ else Value.int ((if x = q then ρ.2.2.1 s else if x = p then ρ.2.2.1 s else ρ.2.2.1 x) j)) = _
        rw [if_neg q3, if_neg q2]
        rfl
      rw [e1, k1, e2]
    · rw [han]
      cases hv0 : C.2.2.2.2.2.1.1 with
      | none => rfl
      | some t =>
        rw [hv0] at hB
        exact congrArg some (nod_v al2 (List.all_eq_true.mp hB.1 t List.mem_cons_self)).symm
    · rw [han]
      cases hv0 : C.2.2.2.2.2.1.2 with
      | none => rfl
      | some t =>
        rw [hv0] at hB
        exact congrArg some (nod_v al2 (List.all_eq_true.mp hB.2 t List.mem_cons_self)).symm
    · intro B G hR
      rw [hcel]
      refine HR_view (ρ1 := ρ2) (ρ2 := rsI s (ρ2.2.2.1 p) ρ2) (fun c _ q => (dm c).mpr q) (fun x hc e1 e2 y g1 g2 hy => ?_) (fun c _ q => (dm c).mp q) hR
      by_cases hck : x = k
      · rw [hck, gk] at g1
        rw [hck, hZ] at g2
        cases g1
        cases g2
        cases y with
        | inr z => exact hy.elim
        | inl z =>
          obtain ⟨q1, q2, q3, q4⟩ := hy
          refine ⟨q1, q2, fun j hj => ?_, fun u hu => by cases hu⟩
          rw [q3 j hj]
          show (if p % 2 = 1 then _ else Value.int (ρ2.2.2.1 p j)) = (if s % 2 = 1 then _ else Value.int ((rsI s (ρ2.2.2.1 p) ρ2).2.2.1 s j))
          rw [if_neg (by omega), if_neg (by omega), ws]
      · have hxm : ¬ x = km := fun e => hk1 (e ▸ hc)
        rw [gne x hck hxm] at g1
        rw [g1] at g2
        cases g2
        have hc2 := List.all_eq_true.mp h1 x hc
        rw [Bool.or_eq_true] at hc2
        have hc3 := hc2.resolve_left (by simpa using hck)
        rw [g1] at hc3
        exact nod2_CR (alk_symm al2) hc3 hy
    · intro B G hR
      rw [hcel]
      refine HR_view (ρ1 := ρ2) (ρ2 := rsI s (ρ2.2.2.1 p) ρ2) (fun c _ q => (dm c).mpr q) (fun x hc e1 e2 y g1 g2 hy => ?_) (fun c _ q => (dm c).mp q) hR
      have hck : ¬ x = k := fun e => hk2 (e ▸ hc)
      by_cases hxm : x = km
      · rw [hxm, gm] at g1
        rw [hxm, hZm] at g2
        cases g1
        cases g2
        cases y with
        | inr z => exact hy.elim
        | inl z =>
          obtain ⟨q1, q2, q3, q4⟩ := hy
          refine ⟨q1, q2, fun j hj => ?_, fun u hu => by cases hu⟩
          rw [q3 j hj]
          show bden X ρ2 (blkT D n q c) j = bden X (rsI s (ρ2.2.2.1 p) ρ2) (blkT D n s c) j
          rw [blk_v eq_ ec hn, blk_v es ec hn, ws, wc]
          show Value.int (if (ρ2.1 D).toNatClampNeg * n ≤ j ∧ j < (ρ2.1 D).toNatClampNeg * n + n then _ else _) = Value.int (if (ρ2.1 D).toNatClampNeg * n ≤ j ∧ j < (ρ2.1 D).toNatClampNeg * n + n then _ else _)
          by_cases hi : (ρ2.1 D).toNatClampNeg * n ≤ j ∧ j < (ρ2.1 D).toNatClampNeg * n + n
          · rw [if_pos hi, if_pos hi]
            exact congrArg Value.int (he (j - (ρ2.1 D).toNatClampNeg * n) (by omega)).symm
          · rw [if_neg hi, if_neg hi]
      · rw [gne x hck hxm] at g1
        rw [g1] at g2
        cases g2
        have hc2 := List.all_eq_true.mp h2 x hc
        rw [Bool.or_eq_true] at hc2
        have hc3 := hc2.resolve_left (by simpa using hxm)
        rw [g1] at hc3
        exact nod2_CR (alk_symm al2) hc3 hy
end SHARE

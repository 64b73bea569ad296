set_option maxRecDepth 20000
/-! ===== what a call touches and says itself is kept, too ===== -/
noncomputable def drh (mods moda : List Nat) (on : Nat) (fw : sFs) (iw : sI) (fo L : sFs) (J : sI) : Bool := (!(kV mods on)) && (fw.all (fun f => nodF (kV mods) (kV moda) [f] || (fin1 L f || J.any (iqe ([((0, .arg on, .int 0), false)], f)))) && (nodI (kV mods) (kV moda) iw && fo.all (fun f => nodF (kV mods) (kV moda) [f] || (fin1 L f || J.any (iqe ([((0, .arg on, .int 0), true)], f))))))
theorem drH {X : pX} {mods moda : List Nat} {on : Nat} {fw : sFs} {iw : sI} {fo L : sFs} {J : sI} {ρ ρ' : sR} (h : agrM 65536 mods moda ρ' ρ) (hc : drh mods moda on fw iw fo L J = true) (hL : fall X ρ' L) (hJ : iok X ρ' J) (d : drG X on fw iw fo ρ) : drG X on fw iw fo ρ' := by
  simp only [drh, Bool.and_eq_true] at hc
  have e := kV_e h hc.1
  have key : ∀ (b : Bool) (F : sFs), sc X ρ' (0, .arg on, .int 0) = b → F.all (fun f => nodF (kV mods) (kV moda) [f] || (fin1 L f || J.any (iqe ([((0, .arg on, .int 0), b)], f)))) = true → fall X ρ F → fall X ρ' F := fun b F hb hF hf f hm => by
    rcases (Bool.or_eq_true _ _).mp (List.all_eq_true.mp hF f hm) with c | c
    · exact fall_K h c (fun g hg => by rw [List.mem_singleton.mp hg]; exact hf f hm) f (List.mem_singleton.mpr rfl)
    rcases (Bool.or_eq_true _ _).mp c with c | c
    · exact hL f (fin1_ok c)
    · obtain ⟨g, hg, eg⟩ := List.any_eq_true.mp c
      have eg := iqe_ok eg
      subst eg
      exact hJ _ hg (fun x hx => by rw [List.mem_singleton.mp hx]; exact hb)
  refine ⟨fun g => ?_, fun g => ?_⟩
  · have g0 := g
    rw [e] at g0
    exact ⟨key false fw (decide_eq_false g) hc.2.1 (d.1 g0).1, iok_K h hc.2.2.1 (d.1 g0).2⟩
  · have g0 := g
    rw [e] at g0
    exact key true fo (decide_eq_true g) hc.2.2.2 (d.2 g0)
noncomputable def ptg (C : sC) (q : sQ) : Bool := (drh C.2.2.2.2.1.1 C.2.2.2.2.1.2 1282 fw_0 iw_0 fo_0 C.2.2.2.2.2.2.1 C.2.2.2.2.2.2.2.2 && drh C.2.2.2.2.1.1 C.2.2.2.2.1.2 1314 fw_1 iw_1 fo_1 C.2.2.2.2.2.2.1 C.2.2.2.2.2.2.2.2 && drh C.2.2.2.2.1.1 C.2.2.2.2.1.2 1346 fw_2 iw_2 fo_2 C.2.2.2.2.2.2.1 C.2.2.2.2.2.2.2.2 && drh C.2.2.2.2.1.1 C.2.2.2.2.1.2 1378 fw_3 iw_3 fo_3 C.2.2.2.2.2.2.1 C.2.2.2.2.2.2.2.2) && ((fm.all (fun f => nodF (kV C.2.2.2.2.1.1) (kV C.2.2.2.2.1.2) [f] || fin1 C.2.2.2.2.2.2.1 f) && im.all (fun c => nodI (kV C.2.2.2.2.1.1) (kV C.2.2.2.2.1.2) [c] || (C.2.2.2.2.2.2.2.2.any (iqe c) || c.1.any (fun g => g.2 && qqe g.1 q)))) && ptn.all (fun i => !(kV C.2.2.2.2.1.1 i)))
theorem KP_G {X : pX} {C : sC} {t : Int} (q : sQ) (hq : ∀ ρ ρ' : sR, agrM 65536 C.2.2.2.2.1.1 C.2.2.2.2.1.2 ρ' ρ → fok X ρ C.2.2.2.1 → sc X ρ' q = false) (h : ptg C q = true) : KP X C t := fun ρ ρ' am p f f' i' => by
  simp only [ptg, Bool.and_eq_true] at h
  obtain ⟨⟨⟨⟨d0, d1⟩, d2⟩, d3⟩, ⟨m1, m2⟩, m3⟩ := h
  obtain ⟨hd, hb, ⟨s0, s1, s2, s3⟩, s4⟩ := p
  have ee : ∀ i, i ∈ ptn → ρ'.1 i = ρ.1 i := fun i hi => kV_e am (List.all_eq_true.mp m3 i hi)
  have hi : iok X ρ' im := fun c hm hg => by
    rcases (Bool.or_eq_true _ _).mp (List.all_eq_true.mp m2 c hm) with k | k
    · exact iok_K am k (fun d hd' => by rw [List.mem_singleton.mp hd']; exact hd.2.2 c hm) c (List.mem_singleton.mpr rfl) hg
    rcases (Bool.or_eq_true _ _).mp k with k | k
    · obtain ⟨d, hd', e⟩ := List.any_eq_true.mp k
      have e := iqe_ok e
      subst e
      exact i' c hd' hg
    · obtain ⟨g, hg', e⟩ := List.any_eq_true.mp k
      rw [Bool.and_eq_true] at e
      have h1 := hg g hg'
      rw [e.1, qqe_ok e.2, hq ρ ρ' am f] at h1
      cases h1
  exact ⟨⟨⟨drH am d0 f'.2 i' hd.1.1, drH am d1 f'.2 i' hd.1.2.1, drH am d2 f'.2 i' hd.1.2.2.1, drH am d3 f'.2 i' hd.1.2.2.2⟩, ⟨fall_R am m1 f'.2 hd.2.1, hi⟩⟩, bd_e (ee 1376 (by decide)) (ee 1280 (by decide)) hb, ⟨st0_e (ee 19904 (by decide)) (ee 1728 (by decide)) s0, st0_e (ee 19936 (by decide)) (ee 1760 (by decide)) s1, st0_e (ee 19968 (by decide)) (ee 1792 (by decide)) s2, st0_e (ee 20000 (by decide)) (ee 1824 (by decide)) s3⟩, st0_e (ee 20032 (by decide)) (ee 1856 (by decide)) s4⟩

set_option maxRecDepth 20000
/-! ===== what a call does not touch is kept ===== -/
noncomputable def ptn : List Nat := [1376, 1280, 19904, 19936, 19968, 20000, 20032, 1728, 1760, 1792, 1824, 1856]
noncomputable def ptk (mods moda : List Nat) : Bool := (drc mods moda 1282 fw_0 iw_0 fo_0 [] && drc mods moda 1314 fw_1 iw_1 fo_1 [] && drc mods moda 1346 fw_2 iw_2 fo_2 [] && drc mods moda 1378 fw_3 iw_3 fo_3 []) && ((nodF (kV mods) (kV moda) fm && nodI (kV mods) (kV moda) im) && ptn.all (fun i => !(kV mods i)))
theorem PT_keep {X : pX} {t : Int} {mods moda : List Nat} {ρ ρ' : sR} (am : agrM 65536 mods moda ρ' ρ) (h : ptk mods moda = true) (p : PT X t ρ) : PT X t ρ' := by
  simp only [ptk, Bool.and_eq_true] at h
  obtain ⟨⟨⟨⟨d0, d1⟩, d2⟩, d3⟩, ⟨m1, m2⟩, m3⟩ := h
  obtain ⟨hd, hb, ⟨s0, s1, s2, s3⟩, s4⟩ := p
  have ee : ∀ i, i ∈ ptn → ρ'.1 i = ρ.1 i := fun i hi => kV_e am (List.all_eq_true.mp m3 i hi)
  exact ⟨⟨⟨drK am d0 (fun _ f hf => by cases hf) hd.1.1, drK am d1 (fun _ f hf => by cases hf) hd.1.2.1, drK am d2 (fun _ f hf => by cases hf) hd.1.2.2.1, drK am d3 (fun _ f hf => by cases hf) hd.1.2.2.2⟩, ⟨fall_K am m1 hd.2.1, iok_K am m2 hd.2.2⟩⟩, bd_e (ee 1376 (by decide)) (ee 1280 (by decide)) hb, ⟨st0_e (ee 19904 (by decide)) (ee 1728 (by decide)) s0, st0_e (ee 19936 (by decide)) (ee 1760 (by decide)) s1, st0_e (ee 19968 (by decide)) (ee 1792 (by decide)) s2, st0_e (ee 20000 (by decide)) (ee 1824 (by decide)) s3⟩, st0_e (ee 20032 (by decide)) (ee 1856 (by decide)) s4⟩

/-! ===== a helper of the law: calls once, catches, answers a number ===== -/
section PCT
variable {p : Program} {l : Launch} {e : Env} {R : Room} {s s0 : State} {m : MethodId} {args : Array Value} {below : List Frame} {meth : Method} {c : Code} {Q : State → Prop}
variable {cc : ByteArray} {nL b0 : Nat} {ext : Nat → Nat} {D : va_G} {cl : List vw_C} {dA : Nat → ClassId} {Ts Nw : List Cond} {own mname : String} {X : pX} {F : Nat → Nat → FieldType} {dfl : Nat → Nat × List Value} {stat : Nat → Option (String × String × String)} {Mt : List pM} {strs : List (String × Nat) × List Cond}
/-- up to where it throws -/
theorem pm_execC_ok (S : CallFix p m c cc nL s args Ts own) (hg : pm_good Ts) (hW0 : s0.WarmedH s.vm) (hSt : pm_St Ts Nw D cl dA b0 ext X stat s0.heap s) (hCl : pm_Cl Ts cl F dfl) (hmn : meth.name = mname) {ret : Option FieldType} {d : Nat} {call : pCall} (hS : pm_Met l s0 D cl dA b0 ext Ts Mt d call) (hm : pm_Mono call) (hd7 : d + 1 ≤ R.frames) (hd8 : 41 * d + 43 + 41 ≤ R.locals)
    (hoi : Cond.instanceMethod Lib.objectInit ∈ Ts ∧ Cond.code Lib.objectInit ⟨#[0xb1]⟩ 1 none ∈ Ts) {full : List pOp} (hfull : ∀ o ∈ full, pm_opok Ts Nw Mt cl stat own mname cc o) {g0 l0 : Nat} {E : Nat} {G' : pH} {sl' : Nat} (hcells : G'.length - g0 ≤ R.cells) (hslots : sl' - l0 ≤ R.slots)
    (hend : ∀ x : pC, (∀ o ∈ x.1, o ∈ full) → g0 ≤ x.2.2.2.1.length → l0 ≤ x.2.2.2.2 → pm_thr call x = some (.inr E, G', sl') → pm_WC p l e R s m args below meth c Q s0 D cl dA b0 ext nL g0 l0 x) :
    ∀ (n : Nat) (x : pC), (∀ o ∈ x.1, o ∈ full) → g0 ≤ x.2.2.2.1.length → l0 ≤ x.2.2.2.2 → pm_exec X F dfl call nL full ret n x = some (.inr E, G', sl') → pm_WC p l e R s m args below meth c Q s0 D cl dA b0 ext nL g0 l0 x := by
  have hm' : ∀ y as G sl v G' sl', call y as G sl = some (.inl v, G', sl') → G.length ≤ G'.length ∧ sl ≤ sl' := fun y as G sl v G' sl' hc => hm _ _ _ _ _ hc
  intro n
  induction n with
  | zero => intro x _ _ _ h; cases h
  | succ n ih =>
    intro x hsub hg0 hl0 h
    unfold pm_exec at h
    split at h
    · cases h
    · split at h
      · next x' hx' =>
        have h1 := pm_step_len hm' hsub hx'
        have h2 := pm_exec_lenG hm n x' _ h1.2.2 h
        dsimp only at h2
        have h3 := ih x' h1.2.2 (Nat.le_trans hg0 h1.1) (Nat.le_trans hl0 h1.2.1) h
        cases hcur : x'.1 with
        | nil =>
          exfalso
          cases n with
          | zero => cases h
          | succ n =>
            unfold pm_exec at h
            obtain ⟨cur, lv, st, G, sl⟩ := x'
            dsimp only at hcur
            subst hcur
            simp [pm_fin, pm_step, pm_thr] at h
        | cons o t => exact pm_step_ok S hg hW0 hSt hCl hmn hS hd7 hd8 hoi (fun o t ho => hfull o (hsub o (by rw [ho]; exact List.mem_cons_self))) hsub hx' hcur hg0 hl0 (by omega) (by omega) h3
      · exact hend x hsub hg0 hl0 h
/-- a virtual call that throws, whatever is behind it -/
theorem pm_throwsV (S : CallFix p m c cc nL s args Ts own) (hg : pm_good Ts) (hW0 : s0.WarmedH s.vm) (hSt : pm_St Ts Nw D cl dA b0 ext X stat s0.heap s) {d : Nat} {call : pCall} (hm : pm_Mono call) (hX : pm_MetX l s0 D cl dA b0 ext Ts Mt d call) (hd7 : d + 1 ≤ R.frames) (hd8 : 41 * d + 43 + 41 ≤ R.locals)
    {pc idx len r1 r2 : Nat} {r3 : Int} (hop : pm_opok Ts Nw Mt cl stat own mname cc (pc, .invokevirtual idx, len, r1, r2, r3)) {st as rest : List Value} {G G' : pH} {sl sl' E : Nat} (hq : pm_ask (.invokevirtual idx) r2 r3 st G = some (as, rest)) (hcall : call r1 as G sl = some (.inr E, G', sl')) {H : Heap} {locs : List Loc} {cells slots : Nat} {ls : Array Slot} {lw : pL} (hR : pm_R D cl dA b0 ext s0.heap G H) (hB : pm_B b0 locs) (hl : lv_has ls nL lw) (hcs : cells + (G'.length - G.length) ≤ R.cells ∧ slots + (sl' - sl) ≤ R.slots)
    (kk : ∀ (H1 : Heap) (locs1 : List Loc) (q : Addr) (ce : Cell), pm_R D cl dA b0 ext s0.heap G' H1 → pm_B b0 locs1 → H1[q]? = some ce → ce.vm = .none → s.vm.findClass (pm_en E) = some ce.cls → vx_W p l e R s m args below meth c H1 locs1 (cells + (G'.length - G.length)) (slots + (sl' - sl)) Q (F0 m pc ls (pm_S b0 ext rest)) q) :
    W p l e R s m args below meth c H locs cells slots Q (F0 m pc ls (pm_S b0 ext st)) := by
  obtain ⟨hx, hb, hml, hown, hts⟩ := id S
  obtain ⟨hd, hln, hop⟩ := hop
  simp only [pm_len, beq_iff_eq] at hln; subst hln
  have hMet := hX _ _ _ _ _ _ _ hcall
  simp only [pm_ask] at hq
  split at hq
  · next q' ha =>
    split at hq
    · next hrc =>
      cases hq
      obtain ⟨M, n, qc, rfl, q1, qc1, qc2, q2, q3, q4, q5, q6, q7, q8⟩ := hop
      have hMet := hMet M q1
      obtain ⟨a1, a2, a3⟩ := pm_argsOf_ok ha b0 ext
      have hrc : pm_recv r3.toNat G as = true := hrc
      obtain ⟨b, as', rfl⟩ : ∃ (b : Nat) (as' : List Value), as = .ref b :: as' := by
        unfold pm_recv at hrc
        split at hrc
        · exact ⟨_, _, rfl⟩
        · cases hrc
      unfold pm_recv at hrc
      dsimp only at hrc
      split at hrc
      · next o hob =>
        have hci : o.1 = r3.toNat := by simpa using hrc
        have hcellB : ∃ cellB : Cell, H[b0 + b]? = some cellB ∧ cellB.vm.isStatics = false ∧ s.vm.findClass M.1.cls = some cellB.cls := by
          have hP : va_P D cl [(b0 + b, .inr (o.1, o.2.map (pm_tr b0 ext)))] H := by
            intro z q' hq
            match z, hq with
            | 0, hq => cases hq; exact hR.2.2 b _ hob
            | z + 1, hq => simp at hq
          have h9 := va_recv (q0 := 0) (ci := o.1) (q := qc) hSt.1 hP (by rw [hci]; exact qc1) rfl
          rw [qc2] at h9
          exact h9
        have hp : PreV s H M.1.cls (b0 + b) (pm_Pc s0 D cl dA b0 ext (.ref b :: as') G) (pm_S b0 ext as') := ⟨pm_blind s0 D cl dA b0 ext _ G, hcellB, fun U hU hW => ⟨rfl, State.WarmedH.trans hW0 hW, by rw [hU]; exact hR⟩⟩
        have hRR : (pm_rm d (G'.length - G.length) (sl' - sl)).frames + 1 ≤ R.frames ∧ 8 + (M.2.2.1 + 11) + (pm_rm d (G'.length - G.length) (sl' - sl)).locals ≤ R.locals := ⟨hd7, by show 8 + (M.2.2.1 + 11) + (41 * d + 43) ≤ R.locals; omega⟩
        have hlen : (pm_S b0 ext as').length = n := by unfold pm_S; rw [List.length_map]; simpa using a1
        have cb := callB_of (R := R) (rm := pm_rm d (G'.length - G.length) (sl' - sl)) n hts (pm_goodIn hg q6) rfl rfl rfl (hts _ q5) (hts _ q2) q8 hRR
        have hst : pm_S b0 ext st = (pm_S b0 ext as').reverse ++ .ref (b0 + b) :: pm_S b0 ext rest := by
          rw [a2]
          simp [pm_S, pm_tr]
        have hr := vx_runV (e := e) (below := below) (meth := meth) (locs := locs) (g := F0 m pc ls (pm_S b0 ext st)) (b := b0 + b) (As := pm_S b0 ext as') (rest := pm_S b0 ext rest) S hMet ⟨cb, hts _ q3, hts _ q4⟩ hp rfl hlen hl.1 hst (lv_room a3) hd hcs
        intro T hT X
        rcases hr T hT X with ⟨v, st₀, t, T', L, h0, X', hL, e1, e2, hq, st'⟩ | ⟨q, st₀, t, T', L, E', ce, h0, X', hL, e1, e2, ⟨hE, hW, hR'⟩, hce, hcv, hcl, st'⟩
        · exact hq.elim
        · rw [hE] at hcl
          obtain ⟨t2, x1, x2⟩ := kk t.heap (locs ++ L) q ce hR' (fun z hz => (List.mem_append.mp hz).elim (fun h => hB z h) (fun h => hL z h)) hce hcv hcl T' e1 X'
          exact ⟨t2, st'.trans x1, x2⟩
      · cases hrc
    · cases hq
  · cases hq
end PCT

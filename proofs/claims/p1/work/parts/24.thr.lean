/-! ===== a run that ends by a throw ===== -/
def pm_en (E : Nat) : String := match E with
  | 0 => "java/lang/IllegalArgumentException"
  | 1 => "java/lang/IllegalStateException"
  | _ => "java/lang/IndexOutOfBoundsException"
def pm_names : List String := ["java/lang/RuntimeException", "java/lang/Exception"]
theorem pm_fitE (E : Nat) : Bundle.fit (pm_en E) = true := by
  unfold pm_en
  split <;> decide +kernel
theorem pm_fitN : ∀ n ∈ pm_names, Bundle.fit n = true := by decide +kernel
def pm_XC (s0 : State) (D : va_G) (cl : List vw_C) (dA : Nat → ClassId) (b0 : Nat) (ext : Nat → Nat) (E : Nat) (G : pH) : String → State → State → Prop := fun En _ t => En = pm_en E ∧ s0.WarmedH t.vm ∧ pm_R D cl dA b0 ext s0.heap G t.heap
def pm_no : Array Value → State → Outcome → State → Prop := fun _ _ _ _ => False
def pm_Mono (call : pCall) : Prop := ∀ (y : Nat) (as : List Value) (G : pH) (sl : Nat) (r : pRes), call y as G sl = some r → G.length ≤ r.2.1.length ∧ sl ≤ r.2.2
def pm_MetX (l : Launch) (s0 : State) (D : va_G) (cl : List vw_C) (dA : Nat → ClassId) (b0 : Nat) (ext : Nat → Nat) (Ts : List Cond) (Mt : List pM) (d : Nat) (call : pCall) : Prop :=
  ∀ (y : Nat) (as : List Value) (G : pH) (sl : Nat) (E : Nat) (G' : pH) (sl' : Nat), call y as G sl = some (.inr E, G', sl') → ∀ M : pM, Mt[y]? = some M →
    vx_Met l M.1 (pm_W M.1 M.2.1 M.2.2.1 M.2.2.2.1 Ts) (pm_rm d (G'.length - G.length) (sl' - sl)) (pm_Pc s0 D cl dA b0 ext as G) pm_no (pm_XC s0 D cl dA b0 ext E G') (G'.length - G.length) (sl' - sl) (fun q => b0 ≤ q)
/-- what is known of a state, for throws: two statics of Throwable, the texts -/
def pm_Th (b0 : Nat) (strs : List (String × Nat) × List Cond) (H0 : Heap) (s : State) : Prop := vx_Zq Bundle.tN "UNASSIGNED_STACK" Bundle.steD (fun z => b0 ≤ z) s H0 ∧ vx_Zq Bundle.tN "SUPPRESSED_SENTINEL" Bundle.listD (fun z => b0 ≤ z) s H0 ∧ (∀ q ∈ strs.1, ∃ (text : String) (sa : Nat), vk_R q.1 q.2 text sa s) ∧ ∀ w ∈ strs.2, w.onTables = true ∧ ∀ A : Array Value, w.before A s = true
/-- what the tables must say of a throw -/
def pm_thok (Ts : List Cond) (strs : List (String × Nat) × List Cond) (own : String) (cc : ByteArray) (o : pOp) : Prop := match o with
  | (pc, ins, _, r1, _, r3) => match ins with
    | .new idx => r3 = 1 → ∃ is ic : Nat, decode cc (pc + 3) = .ok (.dup, 1) ∧ Cond.classLink own idx (pm_en r1) ∈ Ts ∧ Cond.initialized (pm_en r1) ∈ Ts ∧ (∀ w ∈ vx_atS own ic (pm_en r1) pm_names, w ∈ Ts ∨ w ∈ strs.2) ∧ (own, is) ∈ strs.1 ∧ ((decode cc (pc + 4) = .ok (.ldc is, 2) ∧ decode cc (pc + 6) = .ok (.invokespecial ic, 3) ∧ decode cc (pc + 9) = .ok (.athrow, 1)) ∨ (decode cc (pc + 4) = .ok (.ldc_w is, 3) ∧ decode cc (pc + 7) = .ok (.invokespecial ic, 3) ∧ decode cc (pc + 10) = .ok (.athrow, 1)))
    | _ => True
theorem pm_ot {Ts : List Cond} (hg : pm_good Ts) {w : Cond} (h : w ∈ Ts) : vx_ot w = true := by
  rcases hg w h with h1 | ⟨ty, rfl⟩
  · simp only [Bool.and_eq_true] at h1
    simp [vx_ot, h1.1]
  · simp [vx_ot, goodWord]
section PTR
variable {p : Program} {l : Launch} {e : Env} {R : Room} {s s0 : State} {m : MethodId} {args : Array Value} {below : List Frame} {meth : Method} {c : Code}
variable {cc : ByteArray} {nL b0 : Nat} {ext : Nat → Nat} {D : va_G} {cl : List vw_C} {dA : Nat → ClassId} {Ts Nw : List Cond} {own mname : String} {X : pX} {F : Nat → Nat → FieldType} {dfl : Nat → Nat × List Value} {stat : Nat → Option (String × String × String)} {Mt : List pM} {strs : List (String × Nat) × List Cond}
theorem pm_afterX {H : Heap} {locs : List Loc} {cells slots : Nat} {pc : Nat} {ls : Array Slot} {E : Nat} {G' : pH} {mc ms MC MS : Nat} {st0 rest : List Value} {a : Array Value} (hr : vx_Run p l e R s m args below meth c H locs cells slots mc ms (F0 m pc ls st0) rest (pm_no a) (pm_XC s0 D cl dA b0 ext E G') (fun q => b0 ≤ q)) (hW0 : s0.WarmedH s.vm) (hB : pm_B b0 locs) (hte : ∀ x ∈ c.exceptionTable.toList, False) (hlocks : meth.locks = false) (hc : cells + mc ≤ MC) (hs : slots + ms ≤ MS) :
    W p l e R s m args below meth c H locs cells slots (vx_MQ below pm_no (pm_XC s0 D cl dA b0 ext E G') args s MC MS (fun q => b0 ≤ q)) (F0 m pc ls st0) := by
  intro T hT X
  rcases hr T hT X with ⟨v, st₀, t, T', L, h0, X', hL, e1, e2, hq, st⟩ | ⟨q, st₀, t, T', L, E', ce, h0, X', hL, e1, e2, ⟨hE, hW, hR⟩, hce, hcv, hcl, st⟩
  · exact hq.elim
  · have k := pm_out (p := p) (l := l) (e := e) (R := R) (s := s) (m := m) (args := args) (below := below) (meth := meth) (c := c) (H := t.heap) (locs := locs ++ L) (cells := cells + mc) (slots := slots + ms) (free := fun q => b0 ≤ q) (ls := ls) (rest := rest) (Qc := pm_no) (XC := pm_XC s0 D cl dA b0 ext E G') (pc := pc) (E := E') (ce := ce) (q := q) (mc := MC) (ms := MS) (fun x hx => (hte x hx).elim) hlocks hce hcv hcl (fun t2 h2 hW2 => ⟨hE, State.WarmedH.trans hW0 hW2, by rw [h2]; exact hR⟩) (fun z hz => (List.mem_append.mp hz).elim (fun h => hB z h) (fun h => hL z h)) hc hs
    obtain ⟨t2, a1, b1⟩ := k T' e1 X'
    exact ⟨t2, st.trans a1, b1⟩
theorem pm_thr_ok (S : CallFix p m c cc nL s args Ts own) (h5 : 6 ≤ R.frames ∧ 90 ≤ R.locals) (hg : pm_good Ts) (hW0 : s0.WarmedH s.vm) (hSt : pm_St Ts Nw D cl dA b0 ext X stat s0.heap s) (hTh : pm_Th b0 strs s0.heap s) (hb0 : s0.heap.size = b0) (hlt : l.stackTraces = false) (hte : ∀ x ∈ c.exceptionTable.toList, False) (hlocks : meth.locks = false) {d : Nat} {call : pCall} (hm : pm_Mono call) (hX : pm_MetX l s0 D cl dA b0 ext Ts Mt d call) (hd7 : d + 1 ≤ R.frames) (hd8 : 41 * d + 43 + 41 ≤ R.locals)
    {full : List pOp} (hfull : ∀ o ∈ full, pm_opok Ts Nw Mt cl stat own mname cc o) (hthk : ∀ o ∈ full, pm_thok Ts strs own cc o) {x : pC} (hsub : ∀ o ∈ x.1, o ∈ full) {E : Nat} {G' : pH} {sl' : Nat} (h : pm_thr call x = some (.inr E, G', sl')) {g0 l0 : Nat} (hs0 : s.heap.size = b0 + g0 ∧ ∀ q : Nat, q < b0 → s.heap[q]? = s0.heap[q]?) (hg0 : g0 ≤ x.2.2.2.1.length) (hl0 : l0 ≤ x.2.2.2.2) (hcells : G'.length - g0 ≤ R.cells) (hslots : sl' - l0 ≤ R.slots) :
    pm_WC p l e R s m args below meth c (vx_MQ below pm_no (pm_XC s0 D cl dA b0 ext E G') args s (G'.length - g0) (sl' - l0) (fun q => b0 ≤ q)) s0 D cl dA b0 ext nL g0 l0 x := by
  obtain ⟨hx, hb, hml, hown, hts⟩ := id S
  unfold pm_thr at h
  split at h
  · next pc ins len r1 r2 r3 tail lv st G sl =>
    have hop := hfull _ (hsub _ List.mem_cons_self)
    have hth := hthk _ (hsub _ List.mem_cons_self)
    obtain ⟨hd, hln, hop⟩ := hop
    dsimp only at hg0 hl0
    intro H locs ls o t ho hR hB hl
    cases ho
    dsimp only at hR hl ⊢
    split at h
    · next hq0 =>
      cases h
      cases ins <;> simp only [pm_isThrow] at hq0
      case new idx =>
        simp only [pm_len, beq_iff_eq] at hln; subst hln
        have hq : r3 = 1 ∧ (st.map (fun v => v.category)).sum ≤ 8 := by simpa using hq0
        obtain ⟨is, ic, d3, k1, k2, k3, k4, kd⟩ := hth hq.1
        obtain ⟨hU, hN, hstrs, htx⟩ := hTh
        obtain ⟨text, sa, hstr⟩ := hstrs _ k4
        have hkeep : ∀ a : Nat, a < s0.heap.size → ¬ (fun z => b0 ≤ z) a → s.heap[a]? = s0.heap[a]? := fun a _ h2 => hs0.2 a (Nat.not_le.mp h2)
        have hU := hU.kept hkeep
        have hN := hN.kept hkeep
        have hSS : va_S (fun z => b0 ≤ z) s.heap H locs := ⟨by rw [hs0.1, hR.1]; omega, fun q _ h2 => by rw [hR.2.1 q (Nat.not_le.mp h2), hs0.2 q (Nat.not_le.mp h2)], hB⟩
        have hgw : ∀ w ∈ Cond.classLink own idx (pm_en E) :: Cond.initialized (pm_en E) :: vx_atS own ic (pm_en E) pm_names, vx_ot w = true := by
          intro w hw
          rcases List.mem_cons.mp hw with rfl | hw
          · exact pm_ot hg k1
          · rcases List.mem_cons.mp hw with rfl | hw
            · exact pm_ot hg k2
            · rcases k3 w hw with h9 | h9
              · exact pm_ot hg h9
              · simp [vx_ot, (htx w h9).1]
        have hsum : ((pm_S b0 ext st).map (fun v => v.category)).sum ≤ 8 := by
          have e9 : (pm_S b0 ext st).map (fun v => v.category) = st.map (fun v => v.category) := by
            unfold pm_S
            rw [List.map_map]
            exact List.map_congr_left (fun v _ => pm_cat' b0 ext v)
          rw [e9]; exact hq.2
        have eL : (G ++ [none] : pH).length = G.length + 1 := by simp
        have fin : ∀ t : State, s.WarmedH t.vm → t.heap.size = H.size + 1 → (∀ q : Nat, q < H.size → t.heap[q]? = H[q]?) → pm_XC s0 D cl dA b0 ext E (G ++ [none]) (pm_en E) s t := fun t w1 w2 w3 => ⟨rfl, State.WarmedH.trans hW0 w1, hR.push w2 w3 (fun y hy => by cases hy)⟩
        rw [eL] at hcells ⊢
        rcases kd with ⟨d4, d6, d9⟩ | ⟨d4, d7, d10⟩
        · exact pm_throwS hx hb hlt hown (pm_fitE E) pm_fitN (hts _ k1) (hts _ k2) hstr (fun w hw => (k3 w hw).elim (fun h9 => hts _ h9) (fun h9 => (htx w h9).2 _)) hgw hU hN hSS (hl.1.trans hml.symm) hd d3 d4 d6 d9 (fun x hx => (hte x hx).elim) (by show 2 + 3 < R.frames; omega) (by show _ + (13 * (2 + 1) + 43) ≤ R.locals; omega) (by omega) (by omega) hlocks fin hB (by omega) (by omega)
        · exact pm_throwSW hx hb hlt hown (pm_fitE E) pm_fitN (hts _ k1) (hts _ k2) hstr (fun w hw => (k3 w hw).elim (fun h9 => hts _ h9) (fun h9 => (htx w h9).2 _)) hgw hU hN hSS (hl.1.trans hml.symm) hd d3 d4 d7 d10 (fun x hx => (hte x hx).elim) (by show 2 + 3 < R.frames; omega) (by show _ + (13 * (2 + 1) + 43) ≤ R.locals; omega) (by omega) (by omega) hlocks fin hB (by omega) (by omega)
      all_goals (cases hq0)
    · split at h
      · next hq1 =>
        split at h
        · next q hq =>
          obtain ⟨as, rest⟩ := q
          split at h
          · next E' G'' sl'' hcall =>
            cases h
            dsimp only at hcall
            have hmo := hm _ _ _ _ _ hcall
            dsimp only at hmo
            have hMet := hX _ _ _ _ _ _ _ hcall
            have e1 : G.length - g0 + (G'.length - G.length) = G'.length - g0 := by omega
            have e2 : sl - l0 + (sl' - sl) = sl' - l0 := by omega
            have hcs : G.length - g0 + (G'.length - G.length) ≤ R.cells ∧ sl - l0 + (sl' - sl) ≤ R.slots := ⟨by rw [e1]; exact hcells, by rw [e2]; exact hslots⟩
            cases ins <;> simp only [pm_mayThrow] at hq1
            case invokestatic idx =>
              simp only [pm_ask] at hq
              simp only [pm_len, beq_iff_eq] at hln; subst hln
              have h7 : r3 ≠ 7 := fun h7 => by rw [if_pos h7] at hq; cases hq
              have h8 : r3 ≠ 8 := fun h8 => by rw [h8] at hq1; simp at hq1
              rw [if_neg h7, if_neg h8] at hq
              obtain ⟨M, q1, q2, q3, q4, q5, ⟨q6, -⟩, q7⟩ := hop.2 h7
              have hMet := hMet M q1
              obtain ⟨a1, a2, a3⟩ := pm_argsOf_ok hq b0 ext
              have hp : PreS s H (pm_Pc s0 D cl dA b0 ext as G) (pm_S b0 ext as) := ⟨pm_blind s0 D cl dA b0 ext as G, fun U hU hW => ⟨rfl, State.WarmedH.trans hW0 hW, by rw [hU]; exact hR⟩⟩
              have hRR : (pm_rm d (G'.length - G.length) (sl' - sl)).frames + 1 ≤ R.frames ∧ 8 + (M.2.2.1 + 11) + (pm_rm d (G'.length - G.length) (sl' - sl)).locals ≤ R.locals := ⟨hd7, by show 8 + (M.2.2.1 + 11) + (41 * d + 43) ≤ R.locals; omega⟩
              have hlen : (pm_S b0 ext as).length = r2 := by unfold pm_S; rw [List.length_map]; exact a1
              rcases q2 with q2 | ⟨q2, -⟩
              · have cb := callB_of (R := R) (rm := pm_rm d (G'.length - G.length) (sl' - sl)) r2 hts (pm_goodIn hg q5) rfl rfl rfl (hts _ q4) (hts _ q2) q7 hRR
                exact pm_afterX (vx_runS S hMet ⟨cb, hts _ q3⟩ hp rfl hlen hl.1 a2 (lv_room a3) hd hcs) hW0 hB hte hlocks (Nat.le_of_eq e1) (Nat.le_of_eq e2)
              · exfalso
                rw [q2] at hq1
                simp at hq1
            case invokevirtual idx =>
              simp only [pm_ask] at hq
              simp only [pm_len, beq_iff_eq] at hln; subst hln
              split at hq
              · next q' ha =>
                split at hq
                · next hrc =>
                  cases hq
                  obtain ⟨M, n, qc, rfl, q1, qc1, qc2, q2, q3, q4, q5, q6, q7, q8⟩ := hop
                  have hMet := hMet M q1
                  obtain ⟨a1, a2, a3⟩ := pm_argsOf_ok ha b0 ext
                  have hrc : pm_recv r3.toNat G as = true := hrc
                  obtain ⟨b, as', rfl⟩ : ∃ (b : Nat) (as' : List Value), as = .ref b :: as' := by
                    unfold pm_recv at hrc
                    split at hrc
                    · exact ⟨_, _, rfl⟩
                    · cases hrc
                  unfold pm_recv at hrc
                  dsimp only at hrc
                  split at hrc
                  · next o hob =>
                    have hci : o.1 = r3.toNat := by simpa using hrc
                    have hcellB : ∃ cellB : Cell, H[b0 + b]? = some cellB ∧ cellB.vm.isStatics = false ∧ s.vm.findClass M.1.cls = some cellB.cls := by
                      have hP : va_P D cl [(b0 + b, .inr (o.1, o.2.map (pm_tr b0 ext)))] H := by
                        intro z q' hq
                        match z, hq with
                        | 0, hq => cases hq; exact hR.2.2 b _ hob
                        | z + 1, hq => simp at hq
                      have h9 := va_recv (q0 := 0) (ci := o.1) (q := qc) hSt.1 hP (by rw [hci]; exact qc1) rfl
                      rw [qc2] at h9
                      exact h9
                    have hp : PreV s H M.1.cls (b0 + b) (pm_Pc s0 D cl dA b0 ext (.ref b :: as') G) (pm_S b0 ext as') := ⟨pm_blind s0 D cl dA b0 ext _ G, hcellB, fun U hU hW => ⟨rfl, State.WarmedH.trans hW0 hW, by rw [hU]; exact hR⟩⟩
                    have hRR : (pm_rm d (G'.length - G.length) (sl' - sl)).frames + 1 ≤ R.frames ∧ 8 + (M.2.2.1 + 11) + (pm_rm d (G'.length - G.length) (sl' - sl)).locals ≤ R.locals := ⟨hd7, by show 8 + (M.2.2.1 + 11) + (41 * d + 43) ≤ R.locals; omega⟩
                    have hlen : (pm_S b0 ext as').length = n := by unfold pm_S; rw [List.length_map]; simpa using a1
                    have cb := callB_of (R := R) (rm := pm_rm d (G'.length - G.length) (sl' - sl)) n hts (pm_goodIn hg q6) rfl rfl rfl (hts _ q5) (hts _ q2) q8 hRR
                    refine pm_afterX (vx_runV (b := b0 + b) (As := pm_S b0 ext as') (rest := pm_S b0 ext rest) S hMet ⟨cb, hts _ q3, hts _ q4⟩ hp rfl hlen hl.1 ?_ (lv_room a3) hd hcs) hW0 hB hte hlocks (Nat.le_of_eq e1) (Nat.le_of_eq e2)
                    show pm_S b0 ext st = _
                    rw [a2]
                    simp [pm_S, pm_tr]
                  · cases hrc
                · cases hq
              · cases hq
            all_goals (cases hq1)
          · cases h
        · cases h
      · cases h
  · cases h
end PTR

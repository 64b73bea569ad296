/-! ===== a call that returns ===== -/
abbrev pm_W (y : MethodName) (cc : ByteArray) (nL : Nat) (ret : Option FieldType) (Ts : List Cond) : List Cond := Cond.code y cc nL ret :: Ts
def pm_Pc (s0 : State) (D : va_G) (cl : List vw_C) (dA : Nat → ClassId) (b0 : Nat) (ext : Nat → Nat) (as : List Value) (G : pH) : Array Value → State → Prop := va_Pc (pm_S b0 ext as) (fun U => s0.WarmedH U.vm ∧ pm_R D cl dA b0 ext s0.heap G U.heap)
def pm_Qc (s0 : State) (D : va_G) (cl : List vw_C) (dA : Nat → ClassId) (b0 : Nat) (ext : Nat → Nat) (v : Option Value) (G : pH) : Array Value → State → Outcome → State → Prop := fun _ _ o t => o = .returned (v.map (pm_tr b0 ext)) ∧ s0.WarmedH t.vm ∧ pm_R D cl dA b0 ext s0.heap G t.heap
def pm_rm (d mc ms : Nat) : Room := { frames := d, cells := mc, slots := ms, locals := 41 * d + 43 }
/-- what the results of a call mean -/
def pm_Met (l : Launch) (s0 : State) (D : va_G) (cl : List vw_C) (dA : Nat → ClassId) (b0 : Nat) (ext : Nat → Nat) (Ts : List Cond) (Mt : List pM) (d : Nat) (call : pCall) : Prop :=
  ∀ (y : Nat) (as : List Value) (G : pH) (sl : Nat) (v : Option Value) (G' : pH) (sl' : Nat), call y as G sl = some (.inl v, G', sl') → G.length ≤ G'.length ∧ sl ≤ sl' ∧ ∀ M : pM, Mt[y]? = some M →
    Met l M.1 (pm_W M.1 M.2.1 M.2.2.1 M.2.2.2.1 Ts) (pm_rm d (G'.length - G.length) (sl' - sl)) (pm_Pc s0 D cl dA b0 ext as G) (pm_Qc s0 D cl dA b0 ext v G') (G'.length - G.length) (sl' - sl) (fun q => b0 ≤ q)
def pm_good (Ts : List Cond) : Prop := ∀ w ∈ Ts, (w.onTables && w.keeps) = true ∨ ∃ ty, w = .arrayClass ty
theorem pm_goodIn {Ts : List Cond} (hg : pm_good Ts) {w : Cond} (h : w ∈ Ts) : GoodIn Ts (w :: Ts) := by
  intro x hx
  rcases List.mem_cons.mp hx with rfl | hx
  · exact ⟨h, hg _ h⟩
  · exact ⟨hx, hg _ hx⟩
theorem pm_blind (s0 : State) (D : va_G) (cl : List vw_C) (dA : Nat → ClassId) (b0 : Nat) (ext : Nat → Nat) (as : List Value) (G : pH) : FrameBlind (pm_Pc s0 D cl dA b0 ext as G) := fun _ _ _ _ h => h
theorem pm_argsOf_ok {n : Nat} {st as rest : List Value} (h : pm_argsOf n st = some (as, rest)) (b0 : Nat) (ext : Nat → Nat) : as.length = n ∧ pm_S b0 ext st = (pm_S b0 ext as).reverse ++ pm_S b0 ext rest ∧ ((pm_S b0 ext rest).map (fun v => v.category)).sum ≤ 8 := by
  unfold pm_argsOf at h
  split at h
  · next hq =>
    cases h
    refine ⟨by simp [hq.1], ?_, ?_⟩
    · unfold pm_S
      rw [← List.map_reverse, List.reverse_reverse, ← List.map_append, List.take_append_drop]
    · have : (pm_S b0 ext (st.drop n)).map (fun v => v.category) = (st.drop n).map (fun v => v.category) := by
        unfold pm_S
        rw [List.map_map]
        exact List.map_congr_left (fun v _ => pm_cat' b0 ext v)
      rw [this]
      exact hq.2
  · cases h
theorem pm_args9_ok {n : Nat} {st as rest : List Value} (h : pm_args9 n st = some (as, rest)) (b0 : Nat) (ext : Nat → Nat) : as.length = n ∧ pm_S b0 ext st = (pm_S b0 ext as).reverse ++ pm_S b0 ext rest ∧ ((pm_S b0 ext rest).map (fun v => v.category)).sum ≤ 9 := by
  unfold pm_args9 at h
  split at h
  · next hq =>
    cases h
    refine ⟨by simp [hq.1], ?_, ?_⟩
    · unfold pm_S
      rw [← List.map_reverse, List.reverse_reverse, ← List.map_append, List.take_append_drop]
    · have : (pm_S b0 ext (st.drop n)).map (fun v => v.category) = (st.drop n).map (fun v => v.category) := by
        unfold pm_S
        rw [List.map_map]
        exact List.map_congr_left (fun v _ => pm_cat' b0 ext v)
      rw [this]
      exact hq.2
  · cases h
section PCALL
variable {p : Program} {l : Launch} {e : Env} {R : Room} {s s0 : State} {m : MethodId} {args : Array Value} {below : List Frame} {meth : Method} {c : Code} {H : Heap} {locs : List Loc} {cells slots : Nat} {Q : State → Prop}
variable {cc : ByteArray} {pc nL b0 : Nat} {ext : Nat → Nat} {ls : Array Slot} {D : va_G} {cl : List vw_C} {dA : Nat → ClassId} {G G' : pH} {Ts : List Cond} {own : String}
theorem pm_after {v : Option Value} {mc ms : Nat} {st0 rest : List Value} {a : Array Value} (hr : va_Run p l e R s m args below meth c H locs cells slots mc ms (F0 m pc ls st0) rest (pm_Qc s0 D cl dA b0 ext v G' a) (fun q => b0 ≤ q)) (hB : pm_B b0 locs)
    (kk : ∀ (H1 : Heap) (locs1 : List Loc), pm_R D cl dA b0 ext s0.heap G' H1 → pm_B b0 locs1 → W p l e R s m args below meth c H1 locs1 (cells + mc) (slots + ms) Q (F0 m (pc + 3) ls ((v.map (pm_tr b0 ext)).toList ++ rest))) : W p l e R s m args below meth c H locs cells slots Q (F0 m pc ls st0) := by
  intro T hT X
  obtain ⟨v', st₀, t, T', L, h0, X', hL, e1, e2, ⟨hv, -, hR⟩, st⟩ := hr T hT X
  cases hv
  obtain ⟨t2, a1, b1⟩ := kk t.heap (locs ++ L) hR (fun q hq => (List.mem_append.mp hq).elim (fun h => hB q h) (fun h => hL q h)) T' e1 X'
  exact ⟨t2, st t2 a1, b1⟩
theorem pm_callS_ok (S : CallFix p m c cc nL s args Ts own) (hg : pm_good Ts) (hW0 : s0.WarmedH s.vm) {d : Nat} {call : pCall} {Mt : List pM} (hS : pm_Met l s0 D cl dA b0 ext Ts Mt d call) (hd7 : d + 1 ≤ R.frames) (hd8 : 41 * d + 43 + 41 ≤ R.locals) {y : Nat} {M : pM} (hM : Mt[y]? = some M) {idx n : Nat}
    (hlink : Cond.methodLink own idx M.1 ∈ Ts ∨ ∃ host, va_Nw (.methodLinkNest own idx M.1 host) s) (hstat : Cond.static M.1 ∈ Ts) (hini : Cond.initialized M.1.cls ∈ Ts) (hcode : Cond.code M.1 M.2.1 M.2.2.1 M.2.2.2.1 ∈ Ts) (hmax : M.2.2.1 ≤ 22)
    (hds : M.1.cls ≠ "java/lang/invoke/MethodHandle" ∧ M.1.cls ≠ "java/lang/invoke/VarHandle" ∧ (parseMethodDescriptor M.1.desc).map (fun d => d.parameters.length) = some n) {st as rest : List Value} (ha : pm_argsOf n st = some (as, rest)) {sl : Nat} {v : Option Value} {sl' : Nat} (h : call y as G sl = some (.inl v, G', sl')) (hR : pm_R D cl dA b0 ext s0.heap G H) (hB : pm_B b0 locs) (hls : ls.size = nL) (hdec : decode cc pc = .ok (.invokestatic idx, 3)) (hcells : cells + (G'.length - G.length) ≤ R.cells) (hslots : slots + (sl' - sl) ≤ R.slots)
    (kk : ∀ (H1 : Heap) (locs1 : List Loc), pm_R D cl dA b0 ext s0.heap G' H1 → pm_B b0 locs1 → W p l e R s m args below meth c H1 locs1 (cells + (G'.length - G.length)) (slots + (sl' - sl)) Q (F0 m (pc + 3) ls (pm_S b0 ext (v.toList ++ rest)))) : W p l e R s m args below meth c H locs cells slots Q (F0 m pc ls (pm_S b0 ext st)) := by
  obtain ⟨hx, hb, hml, ho, hts⟩ := id S
  obtain ⟨a1, a2, a3⟩ := pm_argsOf_ok ha b0 ext
  obtain ⟨m1, m2, hMet⟩ := hS y as G sl v G' sl' h
  have hMet := hMet M hM
  have hp : PreS s H (pm_Pc s0 D cl dA b0 ext as G) (pm_S b0 ext as) := ⟨pm_blind s0 D cl dA b0 ext as G, fun U hU hW => ⟨rfl, State.WarmedH.trans hW0 hW, by rw [hU]; exact hR⟩⟩
  have hRR : (pm_rm d (G'.length - G.length) (sl' - sl)).frames + 1 ≤ R.frames ∧ 8 + (M.2.2.1 + 11) + (pm_rm d (G'.length - G.length) (sl' - sl)).locals ≤ R.locals := ⟨hd7, by show 8 + (M.2.2.1 + 11) + (41 * d + 43) ≤ R.locals; omega⟩
  have hlen : (pm_S b0 ext as).length = n := by unfold pm_S; rw [List.length_map]; exact a1
  have fin : ∀ (H1 : Heap) (locs1 : List Loc), pm_R D cl dA b0 ext s0.heap G' H1 → pm_B b0 locs1 → W p l e R s m args below meth c H1 locs1 (cells + (G'.length - G.length)) (slots + (sl' - sl)) Q (F0 m (pc + 3) ls ((v.map (pm_tr b0 ext)).toList ++ pm_S b0 ext rest)) := by
    intro H1 locs1 h1 h2
    have := kk H1 locs1 h1 h2
    have e : pm_S b0 ext (v.toList ++ rest) = (v.map (pm_tr b0 ext)).toList ++ pm_S b0 ext rest := by cases v <;> simp [pm_S]
    rw [e] at this
    exact this
  rcases hlink with hl | ⟨host, hl⟩
  · have cb := callB_of (R := R) (rm := pm_rm d (G'.length - G.length) (sl' - sl)) n hts (pm_goodIn hg hcode) rfl rfl rfl (hts _ hini) (hts _ hl) hds hRR
    exact pm_after (va_runS S hMet ⟨cb, hts _ hstat⟩ hp rfl hlen hls a2 (lv_room a3) hdec ⟨hcells, hslots⟩) hB fin
  · have cb := va_cnB (R := R) (rm := pm_rm d (G'.length - G.length) (sl' - sl)) (own := own) (host := host) (index := idx) n hts (pm_goodIn hg hcode) rfl rfl rfl hl (hts _ hini) hds hRR
    exact pm_after (va_runSN S hMet ⟨cb, hts _ hstat, trivial⟩ hp rfl hlen hls a2 (lv_room a3) hdec ⟨hcells, hslots⟩) hB fin
theorem lv_room9 {rest st : List Value} (h : (st.map fun v => v.category).sum ≤ 9) : 2 * (F0 m pc ls rest).monitorRoom + (st.map fun v => v.category).sum ≤ 9 := by
  show 2 * 0 + _ ≤ 9
  omega
theorem pm_runS9 {y : MethodName} {bytes : ByteArray} {maxL mc ms n index : Nat} {ret : Option FieldType} {ws : List Cond} {rm : Room} {Pc : Array Value → State → Prop} {Qc : Array Value → State → Outcome → State → Prop} {free : Addr → Prop} {As rest : List Value} {g : JFrame} (S : CallFix p m c cc nL s args Ts own) (hM : Met l y ws rm Pc Qc mc ms free) (cw : CallB R s args own index y bytes maxL ret ws rm mc ms n ∧ (Cond.static y).before args s = true) (h9 : 9 + (maxL + 11) + rm.locals ≤ R.locals) (hp : PreS s H Pc As)
    (hg : g.method = m) (hn : As.length = n) (hsize : g.locals.size = nL) (hstack : g.stack = As.reverse ++ rest) (hW : 2 * g.monitorRoom + (rest.map fun v => v.category).sum ≤ 9) (hdg : decode cc g.pc = .ok (.invokestatic index, 3)) (hf : cells + mc ≤ R.cells ∧ slots + ms ≤ R.slots) :
    va_Run p l e R s m args below meth c H locs cells slots mc ms g rest (Qc As.toArray) (free) := by
  have hK : Back l R p e below s args y 3 9 (PreOf R mc ms Pc) (PostOf Qc mc ms free) := by
    obtain ⟨hrc, hrs, hfr, -, hws, hcw, -, hini, -⟩ := cw.1
    exact back_of (bytes := bytes) (maxL := maxL) (ret := ret) hM hp.1 hrc hrs hfr h9 hws hcw (fun a' U hW => word_at hW (Or.inl (by first | rfl | simp [Cond.onTables, Cond.keeps, Cond.steady])) hini)
  obtain ⟨⟨-, -, -, -, -, -, hcode, hini, hy, hlen, hl⟩, hstt⟩ := cw
  obtain ⟨hx, hb, hml, ho, -⟩ := S
  intro T hT X
  obtain ⟨v, vm₁, ⟨U', l2, c2, s2⟩, hW₁, X', ⟨g', mk, t, L, e1, e2, hq, h1, hL, h2, h3⟩, st⟩ := callS X hx (bytes := bytes) (maxL := maxL) (ret := ret) ho hl hstt hini hcode hy hK hg (hsize.trans hml.symm) (argsL := As) (rest := rest) (fun sig h => hn.trans (hlen sig h)) hstack hW (by rw [hb]; exact hdg)
    (fun vm₁ hW₁ => ⟨hf.1, hf.2, hp.2 (T.setVm vm₁) hT hW₁⟩)
  dsimp only [Pt.U, Pt.locs, Pt.cells, Pt.slots] at X' e1 e2 h1 h2 h3 st
  subst h1; subst h2; subst h3
  exact ⟨v, (T.setVm vm₁).calling g' mk As.toArray, t, U', L, hT, X', hL, e1, e2, hq, st⟩
theorem pm_callS9_ok (S : CallFix p m c cc nL s args Ts own) (hg : pm_good Ts) (hW0 : s0.WarmedH s.vm) {d : Nat} {call : pCall} {Mt : List pM} (hS : pm_Met l s0 D cl dA b0 ext Ts Mt d call) (hd7 : d + 1 ≤ R.frames) (hd8 : 41 * d + 43 + 41 ≤ R.locals) {y : Nat} {M : pM} (hM : Mt[y]? = some M) {idx n : Nat}
    (hl : Cond.methodLink own idx M.1 ∈ Ts) (hstat : Cond.static M.1 ∈ Ts) (hini : Cond.initialized M.1.cls ∈ Ts) (hcode : Cond.code M.1 M.2.1 M.2.2.1 M.2.2.2.1 ∈ Ts) (hmax : M.2.2.1 ≤ 21)
    (hds : M.1.cls ≠ "java/lang/invoke/MethodHandle" ∧ M.1.cls ≠ "java/lang/invoke/VarHandle" ∧ (parseMethodDescriptor M.1.desc).map (fun d => d.parameters.length) = some n) {st as rest : List Value} (ha : pm_args9 n st = some (as, rest)) {sl : Nat} {v : Option Value} {sl' : Nat} (h : call y as G sl = some (.inl v, G', sl')) (hR : pm_R D cl dA b0 ext s0.heap G H) (hB : pm_B b0 locs) (hls : ls.size = nL) (hdec : decode cc pc = .ok (.invokestatic idx, 3)) (hcells : cells + (G'.length - G.length) ≤ R.cells) (hslots : slots + (sl' - sl) ≤ R.slots)
    (kk : ∀ (H1 : Heap) (locs1 : List Loc), pm_R D cl dA b0 ext s0.heap G' H1 → pm_B b0 locs1 → W p l e R s m args below meth c H1 locs1 (cells + (G'.length - G.length)) (slots + (sl' - sl)) Q (F0 m (pc + 3) ls (pm_S b0 ext (v.toList ++ rest)))) : W p l e R s m args below meth c H locs cells slots Q (F0 m pc ls (pm_S b0 ext st)) := by
  obtain ⟨hx, hb, hml, ho, hts⟩ := id S
  obtain ⟨a1, a2, a3⟩ := pm_args9_ok ha b0 ext
  obtain ⟨m1, m2, hMet⟩ := hS y as G sl v G' sl' h
  have hMet := hMet M hM
  have hp : PreS s H (pm_Pc s0 D cl dA b0 ext as G) (pm_S b0 ext as) := ⟨pm_blind s0 D cl dA b0 ext as G, fun U hU hW => ⟨rfl, State.WarmedH.trans hW0 hW, by rw [hU]; exact hR⟩⟩
  have hRR : (pm_rm d (G'.length - G.length) (sl' - sl)).frames + 1 ≤ R.frames ∧ 9 + (M.2.2.1 + 11) + (pm_rm d (G'.length - G.length) (sl' - sl)).locals ≤ R.locals := ⟨hd7, by show 9 + (M.2.2.1 + 11) + (41 * d + 43) ≤ R.locals; omega⟩
  have hlen : (pm_S b0 ext as).length = n := by unfold pm_S; rw [List.length_map]; exact a1
  have fin : ∀ (H1 : Heap) (locs1 : List Loc), pm_R D cl dA b0 ext s0.heap G' H1 → pm_B b0 locs1 → W p l e R s m args below meth c H1 locs1 (cells + (G'.length - G.length)) (slots + (sl' - sl)) Q (F0 m (pc + 3) ls ((v.map (pm_tr b0 ext)).toList ++ pm_S b0 ext rest)) := by
    intro H1 locs1 h1 h2
    have := kk H1 locs1 h1 h2
    have e : pm_S b0 ext (v.toList ++ rest) = (v.map (pm_tr b0 ext)).toList ++ pm_S b0 ext rest := by cases v <;> simp [pm_S]
    rw [e] at this
    exact this
  have cb := callB_of (R := R) (rm := pm_rm d (G'.length - G.length) (sl' - sl)) n hts (pm_goodIn hg hcode) rfl rfl rfl (hts _ hini) (hts _ hl) hds ⟨hRR.1, Nat.le_trans (by omega) hRR.2⟩
  exact pm_after (pm_runS9 S hMet ⟨cb, hts _ hstat⟩ hRR.2 hp rfl hlen hls a2 (lv_room9 a3) hdec ⟨hcells, hslots⟩) hB fin
theorem pm_callI_ok (S : CallFix p m c cc nL s args Ts own) (hg : pm_good Ts) (hW0 : s0.WarmedH s.vm) {d : Nat} {call : pCall} {Mt : List pM} (hS : pm_Met l s0 D cl dA b0 ext Ts Mt d call) (hd7 : d + 1 ≤ R.frames) (hd8 : 41 * d + 43 + 41 ≤ R.locals) {y : Nat} {M : pM} (hM : Mt[y]? = some M) {idx n : Nat}
    (hlink : Cond.methodLink own idx M.1 ∈ Ts) (hinst : Cond.instanceMethod M.1 ∈ Ts) (hnm : M.1.name = "<init>") (hret : M.2.2.2.1 = none) (hini : Cond.initialized M.1.cls ∈ Ts) (hcode : Cond.code M.1 M.2.1 M.2.2.1 M.2.2.2.1 ∈ Ts) (hmax : M.2.2.1 ≤ 22)
    (hds : M.1.cls ≠ "java/lang/invoke/MethodHandle" ∧ M.1.cls ≠ "java/lang/invoke/VarHandle" ∧ (parseMethodDescriptor M.1.desc).map (fun d => d.parameters.length) = some n) {st as rest : List Value} {b : Nat} (ha : pm_argsOf (n + 1) st = some (.ref b :: as, rest)) {sl : Nat} {v : Option Value} {sl' : Nat} (h : call y (.ref b :: as) G sl = some (.inl v, G', sl')) (hR : pm_R D cl dA b0 ext s0.heap G H) (hB : pm_B b0 locs) (hls : ls.size = nL) (hdec : decode cc pc = .ok (.invokespecial idx, 3)) (hcells : cells + (G'.length - G.length) ≤ R.cells) (hslots : slots + (sl' - sl) ≤ R.slots)
    (kk : ∀ (H1 : Heap) (locs1 : List Loc), pm_R D cl dA b0 ext s0.heap G' H1 → pm_B b0 locs1 → W p l e R s m args below meth c H1 locs1 (cells + (G'.length - G.length)) (slots + (sl' - sl)) Q (F0 m (pc + 3) ls (pm_S b0 ext (v.toList ++ rest)))) : W p l e R s m args below meth c H locs cells slots Q (F0 m pc ls (pm_S b0 ext st)) := by
  obtain ⟨hx, hb, hml, ho, hts⟩ := id S
  obtain ⟨a1, a2, a3⟩ := pm_argsOf_ok ha b0 ext
  obtain ⟨m1, m2, hMet⟩ := hS y _ G sl v G' sl' h
  have hMet := hMet M hM
  have hp : PreS s H (pm_Pc s0 D cl dA b0 ext (.ref b :: as) G) (.ref (b0 + b) :: pm_S b0 ext as) := ⟨pm_blind s0 D cl dA b0 ext _ G, fun U hU hW => ⟨rfl, State.WarmedH.trans hW0 hW, by rw [hU]; exact hR⟩⟩
  have hRR : (pm_rm d (G'.length - G.length) (sl' - sl)).frames + 1 ≤ R.frames ∧ 8 + (M.2.2.1 + 11) + (pm_rm d (G'.length - G.length) (sl' - sl)).locals ≤ R.locals := ⟨hd7, by show 8 + (M.2.2.1 + 11) + (41 * d + 43) ≤ R.locals; omega⟩
  have hlen : (pm_S b0 ext as).length = n := by unfold pm_S; rw [List.length_map]; simpa using a1
  have fin : ∀ (H1 : Heap) (locs1 : List Loc), pm_R D cl dA b0 ext s0.heap G' H1 → pm_B b0 locs1 → W p l e R s m args below meth c H1 locs1 (cells + (G'.length - G.length)) (slots + (sl' - sl)) Q (F0 m (pc + 3) ls ((v.map (pm_tr b0 ext)).toList ++ pm_S b0 ext rest)) := by
    intro H1 locs1 h1 h2
    have := kk H1 locs1 h1 h2
    have e : pm_S b0 ext (v.toList ++ rest) = (v.map (pm_tr b0 ext)).toList ++ pm_S b0 ext rest := by cases v <;> simp [pm_S]
    rw [e] at this
    exact this
  obtain ⟨yn, cb', nl', rt', ops⟩ := M
  dsimp only at hret hMet hcode hds hlink hinst hnm hini hRR hmax
  subst hret
  have cb := callB_of (R := R) (rm := pm_rm d (G'.length - G.length) (sl' - sl)) n hts (pm_goodIn hg hcode) rfl rfl rfl (hts _ hini) (hts _ hlink) hds hRR
  refine pm_after (va_runI (b := b0 + b) (As := pm_S b0 ext as) (rest := pm_S b0 ext rest) S hMet ⟨cb, hnm, hts _ hinst⟩ hp rfl hlen hls ?_ (lv_room a3) hdec ⟨hcells, hslots⟩) hB fin
  show pm_S b0 ext st = _
  rw [a2]
  simp [pm_S, pm_tr]
theorem pm_callV_ok (S : CallFix p m c cc nL s args Ts own) (hg : pm_good Ts) (hW0 : s0.WarmedH s.vm) (hK : va_K D cl (pm_tys dA) s) {d : Nat} {call : pCall} {Mt : List pM} (hS : pm_Met l s0 D cl dA b0 ext Ts Mt d call) (hd7 : d + 1 ≤ R.frames) (hd8 : 41 * d + 43 + 41 ≤ R.locals) {y : Nat} {M : pM} (hM : Mt[y]? = some M) {idx n ci : Nat} {q : vw_C} (hc : cl[ci]? = some q) (hqc : q.1 = M.1.cls)
    (hlink : Cond.methodLink own idx M.1 ∈ Ts) (hinst : Cond.instanceMethod M.1 ∈ Ts) (hsel : Cond.selects M.1.cls M.1 M.1 ∈ Ts) (hini : Cond.initialized M.1.cls ∈ Ts) (hcode : Cond.code M.1 M.2.1 M.2.2.1 M.2.2.2.1 ∈ Ts) (hmax : M.2.2.1 ≤ 22)
    (hds : M.1.cls ≠ "java/lang/invoke/MethodHandle" ∧ M.1.cls ≠ "java/lang/invoke/VarHandle" ∧ (parseMethodDescriptor M.1.desc).map (fun d => d.parameters.length) = some n) {st as rest : List Value} (ha : pm_argsOf (n + 1) st = some (as, rest)) (hrc : pm_recv ci G as = true) {sl : Nat} {v : Option Value} {sl' : Nat} (h : call y as G sl = some (.inl v, G', sl')) (hR : pm_R D cl dA b0 ext s0.heap G H) (hB : pm_B b0 locs) (hls : ls.size = nL) (hdec : decode cc pc = .ok (.invokevirtual idx, 3)) (hcells : cells + (G'.length - G.length) ≤ R.cells) (hslots : slots + (sl' - sl) ≤ R.slots)
    (kk : ∀ (H1 : Heap) (locs1 : List Loc), pm_R D cl dA b0 ext s0.heap G' H1 → pm_B b0 locs1 → W p l e R s m args below meth c H1 locs1 (cells + (G'.length - G.length)) (slots + (sl' - sl)) Q (F0 m (pc + 3) ls (pm_S b0 ext (v.toList ++ rest)))) : W p l e R s m args below meth c H locs cells slots Q (F0 m pc ls (pm_S b0 ext st)) := by
  obtain ⟨hx, hb, hml, ho, hts⟩ := id S
  obtain ⟨a1, a2, a3⟩ := pm_argsOf_ok ha b0 ext
  obtain ⟨m1, m2, hMet⟩ := hS y _ G sl v G' sl' h
  have hMet := hMet M hM
  obtain ⟨b, as', rfl⟩ : ∃ (b : Nat) (as' : List Value), as = .ref b :: as' := by
    unfold pm_recv at hrc
    split at hrc
    · exact ⟨_, _, rfl⟩
    · cases hrc
  unfold pm_recv at hrc
  dsimp only at hrc
  split at hrc
  · next o hob =>
    have hci : o.1 = ci := by simpa using hrc
    subst hci
    have hcellB : ∃ cellB : Cell, H[b0 + b]? = some cellB ∧ cellB.vm.isStatics = false ∧ s.vm.findClass M.1.cls = some cellB.cls := by
      have hP : va_P D cl [(b0 + b, .inr (o.1, o.2.map (pm_tr b0 ext)))] H := by
        intro z q' hq
        match z, hq with
        | 0, hq => cases hq; exact hR.2.2 b _ hob
        | z + 1, hq => simp at hq
      have := va_recv (q0 := 0) hK hP hc rfl
      rw [hqc] at this
      exact this
    have hp : PreV s H M.1.cls (b0 + b) (pm_Pc s0 D cl dA b0 ext (.ref b :: as') G) (pm_S b0 ext as') := ⟨pm_blind s0 D cl dA b0 ext _ G, hcellB, fun U hU hW => ⟨rfl, State.WarmedH.trans hW0 hW, by rw [hU]; exact hR⟩⟩
    have hRR : (pm_rm d (G'.length - G.length) (sl' - sl)).frames + 1 ≤ R.frames ∧ 8 + (M.2.2.1 + 11) + (pm_rm d (G'.length - G.length) (sl' - sl)).locals ≤ R.locals := ⟨hd7, by show 8 + (M.2.2.1 + 11) + (41 * d + 43) ≤ R.locals; omega⟩
    have hlen : (pm_S b0 ext as').length = n := by unfold pm_S; rw [List.length_map]; simpa using a1
    have fin : ∀ (H1 : Heap) (locs1 : List Loc), pm_R D cl dA b0 ext s0.heap G' H1 → pm_B b0 locs1 → W p l e R s m args below meth c H1 locs1 (cells + (G'.length - G.length)) (slots + (sl' - sl)) Q (F0 m (pc + 3) ls ((v.map (pm_tr b0 ext)).toList ++ pm_S b0 ext rest)) := by
      intro H1 locs1 h1 h2
      have := kk H1 locs1 h1 h2
      have e : pm_S b0 ext (v.toList ++ rest) = (v.map (pm_tr b0 ext)).toList ++ pm_S b0 ext rest := by cases v <;> simp [pm_S]
      rw [e] at this
      exact this
    have cb := callB_of (R := R) (rm := pm_rm d (G'.length - G.length) (sl' - sl)) n hts (pm_goodIn hg hcode) rfl rfl rfl (hts _ hini) (hts _ hlink) hds hRR
    refine pm_after (va_runV (b := b0 + b) (As := pm_S b0 ext as') (rest := pm_S b0 ext rest) S hMet ⟨cb, hts _ hinst, hts _ hsel⟩ hp rfl hlen hls ?_ (lv_room a3) hdec ⟨hcells, hslots⟩) hB fin
    show pm_S b0 ext st = _
    rw [a2]
    simp [pm_S, pm_tr]
  · cases hrc
end PCALL

/-! THE CLAIM OUT OF ONE WALK OF THE LAW'S BODY. Your part is whole_start (and what it stands on); all else here is the same for every law, but numbers. -/
def R_law : String := "ServoNetLaw"
def lw_P (b : Addr) (xs : List Int32) (args : Array Value) (s : State) : Prop := args = #[.ref b] ∧ s.IntsAt b xs ∧ xs.length ≤ 3073 ∧ (Jvm.Cond.and given_1 narrow_1).before args s = true
def lw_Q (_ : Array Value) (s : State) (o : Outcome) (t : State) : Prop := o = .returned (some (.int 1)) ∧ Framed s o t [] 601024 7293000
def lw_Z (below : List Frame) (a : Array Value) (s : State) : State → Prop := fun t => ∃ o, t.status = .running ∧ Ended t below o ∧ lw_Q a s o t
/-- the law's own end, with 1 on the stack, nothing written that was there before, its room as the claim has it -/
theorem lw_ret {p : Program} {l : Launch} {e : Env} {s : State} {m : MethodId} {below : List Frame} {meth : Method} {c : Code} {b : Nat} (hx : p.tables.exec = Jvm.exec) (hb : c.code = code) (hr : meth.sig.returnType = ret) (hlocks : meth.locks = false) {pc : Nat} {H : Heap} {ls : Array Slot} (hdg : decode code pc = .ok (.ireturn, 1)) : W p l e room_1 s m #[Value.ref b] below meth c H [] 601024 7293000 (lw_Z below #[Value.ref b] s) (F0 m pc ls [.int 1]) := by
  intro T hT X
  obtain ⟨fs, hret, hrun, hended, hW, hframe⟩ := X.leave (v := some (.int 1)) (hlocks := hlocks) (fun h => by rw [hr] at h; cases h)
  have hmeth' : T.vm.method? m = some meth := X.method'
  refine ⟨T.setFrames fs, ?_, .returned (some (.int 1)), hrun, hended, rfl, ⟨_, rfl⟩, hW, hframe⟩
  jvm_step X.here [X.here.top, hx, hb, hdg, hmeth', hr, ret, narrow_b1]
  (try refine ⟨rfl, ?_⟩); (try refine ⟨rfl, ?_⟩)
  first | (intro acts; rw [hret _ acts rfl rfl rfl]) | rw [hret _ _ rfl rfl rfl]
  exact Steps.refl _
/-- what holds at the law's entry: the machine, the code, the tables' words (any of lw_tbl by 'hts w (by decide +kernel)'), the script of L ints xs at the cell b, what the Statement gives of the start (any of its parts by flat_of_before) -/
def lw_At (p : Program) (s : State) (m : MethodId) (meth : Method) (c : Code) (b L : Nat) (xs : Nat → Int32) : Prop :=
  p.tables.exec = Jvm.exec ∧ c.code = code ∧ meth.sig.returnType = ret ∧ c.maxLocals = 8 ∧ s.vm.findClass R_law = some m.cls ∧ (∀ w ∈ lw_tbl, w.before #[Value.ref b] s = true) ∧ va_X b L xs s s.heap ∧ b < s.heap.size ∧ meth.locks = false ∧ (Jvm.Cond.and given_1 narrow_1).before #[Value.ref b] s = true
/-! ===== the law over the pure machine ===== -/
theorem lw_ret2 {p : Program} {l : Launch} {e : Env} {s : State} {m : MethodId} {below : List Frame} {meth : Method} {c : Code} {b : Nat} (hx : p.tables.exec = Jvm.exec) (hb : c.code = code) (hr : meth.sig.returnType = ret) (hlocks : meth.locks = false) {pc : Nat} {H : Heap} {locs : List Loc} {cells slots : Nat} {ls : Array Slot} (hB : pm_B s.heap.size locs) (hcs : cells ≤ 601024) (hss : slots ≤ 7293000) (hdg : decode code pc = .ok (.ireturn, 1)) : W p l e room_1 s m #[Value.ref b] below meth c H locs cells slots (lw_Z below #[Value.ref b] s) (F0 m pc ls [.int 1]) := by
  intro T hT X
  obtain ⟨fs, hret, hrun, hended, hW, hframe⟩ := X.leave (v := some (.int 1)) (hlocks := hlocks) (fun h => by rw [hr] at h; cases h)
  have hmeth' : T.vm.method? m = some meth := X.method'
  have hframe := hframe.weaken (l' := []) (fun x hx hlt => absurd (hB x hx) (Nat.not_le.mpr hlt)) hcs hss
  refine ⟨T.setFrames fs, ?_, .returned (some (.int 1)), hrun, hended, rfl, ⟨_, rfl⟩, hW, hframe⟩
  jvm_step X.here [X.here.top, hx, hb, hdg, hmeth', hr, ret, narrow_b1]
  (try refine ⟨rfl, ?_⟩); (try refine ⟨rfl, ?_⟩)
  first | (intro acts; rw [hret _ acts rfl rfl rfl]) | rw [hret _ _ rfl rfl rfl]
  exact Steps.refl _
noncomputable def pcD (L : Nat) (xs : Nat → Int32) (fuel d : Nat) : pCall := pm_callD (pXs L xs) pF pdfl mt_all fuel d
noncomputable def phc (L : Nat) (xs : Nat → Int32) (fuel d : Nat) : pHc := fun y as G sl => match hlp y, mt_all[y]? with
  | some h, some M => pm_help (pXs L xs) pF pdfl (pcD L xs fuel d) M h.1 fuel as G sl
  | _, _ => none
noncomputable def pIt (L : Nat) (xs : Nat → Int32) (fuel : Nat) : Nat → pC → Option pC := pm_iterL (pXs L xs) pF pdfl (pcD L xs fuel 20) (phc L xs fuel 19) 8 mo_455
noncomputable def pSt : pC := (mo_455, [(0, .retAddr 0)], [], [], 0)
/-- the claim, of the pure machine alone -/
def PURE (L : Nat) (xs : Nat → Int32) : Prop := ∃ (fuel n : Nat) (x : pC) (o : pOp) (t : List pOp), pIt L xs fuel n pSt = some x ∧ x.1 = o :: t ∧ o ∈ mo_455 ∧ o.2.1 = .ireturn ∧ x.2.2.1 = [.int 1] ∧ x.2.2.2.1.length ≤ 601024 ∧ x.2.2.2.2 ≤ 7293000
theorem whole_startP {p : Program} {e : Env} {s : State} {m : MethodId} {below : List Frame} {meth : Method} {c : Code} (l : Launch) (hlt : l.stackTraces = false) {b L : Nat} {xs : Nat → Int32} (C0 : lw_At p s m meth c b L xs) (hP : PURE L xs) : W p l e room_1 s m #[Value.ref b] below meth c s.heap [] 0 0 (lw_Z below #[Value.ref b] s) (entryFrame m ([Value.ref b] : List Value).toArray 8) := by
  obtain ⟨hx, hb, hr, hml, hown, hts, hX, hbl, hlk, hgv⟩ := C0
  obtain ⟨fuel, n, x, o, t, hit, hx1, ho, hoi, hst, hc, hs⟩ := hP
  obtain ⟨D, dA, ext, he0, hall⟩ := st_all hts hgv hX hbl
  have hW0 : s.WarmedH s.vm := State.WarmedH.refl s
  have hSt : ∀ s' : State, s.WarmedH s'.vm → pm_St pTs pNw D pcl dA s.heap.size ext (pXs L xs) pstat s.heap s' := fun s' h => (hall s' h).1
  have hTh : ∀ s' : State, s.WarmedH s'.vm → pm_Th s.heap.size strs s.heap s' := fun s' h => (hall s' h).2.1
  have hCa : ∀ s' : State, s.WarmedH s'.vm → pm_Ca pTs hct "ServoNetLaw" s' := fun s' h => (hall s' h).2.2
  have hmet : ∀ d, pm_Met l s D pcl dA s.heap.size ext pTs mt_all d (pcD L xs fuel d) := pm_callD_ok pTs_good hSt hCl_ok ok_I hMt_ok
  have hmetX : ∀ d, pm_MetX l s D pcl dA s.heap.size ext pTs mt_all d (pcD L xs fuel d) := pm_callD_okX pTs_good rfl hlt hSt hTh hCl_ok ok_I hMt_ok hMx_ok
  have hmetH : pm_MetH l s D pcl dA s.heap.size ext pTs Hm 20 (phc L xs fuel 19) := by
    intro y as G sl v G' sl' h
    unfold phc at h
    split at h
    · next hh M e1 e2 =>
      obtain ⟨M', n1, n2, n3, n4, n5, n6, n7, n8, n9⟩ := ckHy_ok e1
      have e9 : M' = M := Option.some.inj (n1.symm.trans e2)
      subst e9
      obtain ⟨k1, k2⟩ := pm_help_ok (ct := hct) (hi := hh.2) pTs_good hSt hCl_ok ok_I (hmet 19) (pm_callD_mono 19) (hmetX 19) (fun s' hw => by rw [n2]; exact hCa s' hw) (by rw [n2]; decide) n3 (hMt_ok y M' e2).2 n4 n5 h
      refine ⟨k1, fun q hq => ?_⟩
      have e3 : Hm y = some (M', pm_tab hh.1 hh.2 hct) := by
        unfold Hm
        rw [e1, e2]
      cases Option.some.inj (hq.symm.trans e3)
      exact k2
    · cases h
  have S : CallFix p m c code 8 s #[Value.ref b] pTs "ServoNetLaw" := ⟨hx, hb, hml, hown, fun w hw => hts w (pTs_sub hw)⟩
  have hod := hlaw_ok (mname := meth.name) o ho
  have hnh : pm_isHelp o.2.1 o.2.2.2.2.2 = false := by rw [hoi]; rfl
  rw [if_neg (by rw [hnh]; decide)] at hod
  have hdec : decode code o.1 = .ok (.ireturn, 1) := by
    obtain ⟨pc, ins, len, r1, r2, r3⟩ := o
    obtain ⟨h1, h2, -⟩ := hod
    dsimp only at hoi
    subst hoi
    simp only [pm_len, beq_iff_eq] at h2
    subst h2
    exact h1
  have key := pm_iterL_ok (p := p) (l := l) (e := e) (R := room_1) (m := m) (below := below) (meth := meth) (c := c) (Q := lw_Z below #[Value.ref b] s) (mname := meth.name) (g0 := 0) (l0 := 0) S pTs_good hW0 (hSt s hW0) hCl_ok rfl (hmet 20) hmetH (by decide) (by decide) ok_I hlaw_ok n pSt x o t (fun o ho => ho) hit hx1 (Nat.zero_le _) (Nat.zero_le _) (by rw [Nat.sub_zero]; exact hc) (by rw [Nat.sub_zero]; exact hs) (fun H locs ls o' t' ho' hR hB hl => by
    cases hx1.symm.trans ho'
    rw [hst]
    exact lw_ret2 hx hb hr hlk hB (by rw [Nat.sub_zero]; exact hc) (by rw [Nat.sub_zero]; exact hs) hdec)
  have hl := lv_entry ([Value.ref b]) (n := 8) (by show 1 ≤ 8; decide)
  have k2 := key s.heap [] _ _ _ rfl ⟨rfl, fun q hq => rfl, fun k x hx => by cases hx⟩ (fun q hq => by cases hq) (by
    have e9 : pm_L s.heap.size ext ([(0, .retAddr 0)] : pL) = lv_args 0 [Value.ref b] := by
      simp only [pm_L, pm_tr, he0, List.map]
      rfl
    show lv_has _ 8 (pm_L s.heap.size ext ([(0, .retAddr 0)] : pL))
    rw [e9]
    exact hl)
  rw [lg_entry_eq]
  exact k2

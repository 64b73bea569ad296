/-! ===== the tables say of each instruction what is wanted: a check by computing ===== -/
noncomputable def pTs : List Cond := lw_tbl.filter goodWord
def pisN (w : Cond) : Bool := match w with
  | .methodLinkNest _ _ _ _ => true
  | .fieldLinkNest _ _ _ _ _ _ => true
  | _ => false
noncomputable def pNw : List Cond := lw_tbl.filter pisN
theorem pTs_good : pm_good pTs := fun w hw => good_of_word (List.mem_filter.mp hw).2
theorem pTs_sub {w : Cond} (h : w ∈ pTs) : w ∈ lw_tbl := (List.mem_filter.mp h).1
theorem ch_tab {w : Cond} (h : w ∈ tables_1) : w ∈ lw_tbl := List.mem_append_right _ h
theorem chn_in {k : Nat} {w : Cond} (h : w ∈ chn k) : w ∈ lw_tbl := by
  have app : ∀ {a b : List Cond}, w ∈ b → w ∈ a ++ b := fun h => List.mem_append_right _ h
  match k, h with
  | 0, h => exact List.mem_append_left _ h
  | 1, h => exact ch_tab (List.mem_append_left _ h)
  | 2, h => exact ch_tab (app (List.mem_append_left _ h))
  | 3, h => exact ch_tab (app (app (List.mem_append_left _ h)))
  | 4, h => exact ch_tab (app (app (app (List.mem_append_left _ h))))
  | 5, h => exact ch_tab (app (app (app (app (List.mem_append_left _ h)))))
  | 6, h => exact ch_tab (app (app (app (app (app (List.mem_append_left _ h))))))
  | 7, h => exact ch_tab (app (app (app (app (app (app (List.mem_append_left _ h)))))))
  | 8, h => exact ch_tab (app (app (app (app (app (app (app (List.mem_append_left _ h))))))))
  | 9, h => exact ch_tab (app (app (app (app (app (app (app (app (List.mem_append_left _ h)))))))))
  | 10, h => exact ch_tab (app (app (app (app (app (app (app (app (app (List.mem_append_left _ h))))))))))
  | 11, h => exact ch_tab (app (app (app (app (app (app (app (app (app (app (List.mem_append_left _ h)))))))))))
  | 12, h => exact ch_tab (app (app (app (app (app (app (app (app (app (app (app (List.mem_append_left _ h))))))))))))
  | 13, h => exact ch_tab (app (app (app (app (app (app (app (app (app (app (app (app (List.mem_append_left _ h)))))))))))))
  | k + 14, h => exact ch_tab (app (app (app (app (app (app (app (app (app (app (app (app (app h)))))))))))))
def pw (k i : Nat) (w : Cond) : Bool := decide ((chn k)[i]? = some w) && goodWord w
def pwn (k i : Nat) (w : Cond) : Bool := decide ((chn k)[i]? = some w) && pisN w
theorem pw_in {k i : Nat} {w : Cond} (h : pw k i w = true) : w ∈ pTs := by
  simp only [pw, Bool.and_eq_true, decide_eq_true_eq] at h
  exact List.mem_filter.mpr ⟨chn_in (List.mem_of_getElem? h.1), h.2⟩
theorem pwn_in {k i : Nat} {w : Cond} (h : pwn k i w = true) : w ∈ pNw := by
  simp only [pwn, Bool.and_eq_true, decide_eq_true_eq] at h
  exact List.mem_filter.mpr ⟨chn_in (List.mem_of_getElem? h.1), h.2⟩
def ckF (on : Nat) (q : Nat × Nat × Nat × Nat × Nat) : Bool := match pcl[q.2.1]? with
  | some v => decide (q.2.2.1 < v.2.2) && pw q.2.2.2.1 q.2.2.2.2 (Cond.fieldLink (onm on) q.1 (v.2.1 q.2.2.1).1 (v.2.1 q.2.2.1).2.1 (v.2.1 q.2.2.1).2.2.1)
  | none => false
def ckS (on : Nat) (q : Nat × Nat × Nat × Nat × Nat) : Bool := match pstat q.2.1 with
  | some v => if q.2.2.1 = 0 then pw q.2.2.2.1 q.2.2.2.2 (Cond.fieldLink (onm on) q.1 v.1 v.2.1 v.2.2) else pwn q.2.2.2.1 q.2.2.2.2 (Cond.fieldLinkNest (onm on) q.1 v.1 v.2.1 v.2.2 "ServoNet")
  | none => false
def ckC (on : Nat) (q : Nat × Nat × Nat × Nat) : Bool := match pcl[q.2.1]? with
  | some v => pw q.2.2.1 q.2.2.2 (Cond.classLink (onm on) q.1 v.1) && (pw (cin q.2.1).1 (cin q.2.1).2.1 (Cond.instantiable v.1 v.2.2) && pw (cin q.2.1).2.2.1 (cin q.2.1).2.2.2 (Cond.initialized v.1))
  | none => false
def ckK (on : Nat) (q : Nat × Int × Nat × Nat) : Bool := pw q.2.2.1 q.2.2.2 (Cond.constant (onm on) q.1 (Int32.ofInt q.2.1))
def ckL (on : Nat) (q : Nat × Int × Nat × Nat) : Bool := pw q.2.2.1 q.2.2.2 (Cond.constantLong (onm on) q.1 (Int64.ofInt q.2.1))
def ckX (on : Nat) (q : Nat × Nat × Nat × Nat) : Bool := decide (q.2.1 < 2) && pw q.2.2.1 q.2.2.2 (Cond.classLink (onm on) q.1 ("[" ++ (FieldType.array (pm_ty q.2.1)).toString))
noncomputable def ckM (on : Nat) (q : Nat × Nat × Nat × Nat × Nat) : Bool := match mt_all[q.2.1]? with
  | some M => if q.2.2.1 = 1 then pwn q.2.2.2.1 q.2.2.2.2 (Cond.methodLinkNest (onm on) q.1 M.1 "ServoNet") else pw q.2.2.2.1 q.2.2.2.2 (Cond.methodLink (onm on) q.1 M.1)
  | none => false
/-- a method that is called: kind 0 static, 1 a constructor, 2 virtual, 3 a helper with handlers -/
noncomputable def ckW (M : pM) (t : Nat × Nat × Nat × Nat × Nat × Nat × Nat × Nat × Nat × Nat) : Bool := match t with
  | (k, n, i1, i2, c1, c2, s1, s2, v1, v2) => if k = 9 ∨ k = 3 then true else
    pw i1 i2 (Cond.initialized M.1.cls) && (decide (c1 = c1 ∧ c2 = c2) && (decide (M.2.2.1 ≤ 22) && (decide (M.1.cls ≠ "java/lang/invoke/MethodHandle") && (decide (M.1.cls ≠ "java/lang/invoke/VarHandle") && (decide ((parseMethodDescriptor M.1.desc).map (fun d => d.parameters.length) = some n) &&
      (if k = 0 then pw s1 s2 (Cond.static M.1) else if k = 1 then pw s1 s2 (Cond.instanceMethod M.1) && (decide (M.1.name = "<init>") && decide (M.2.2.2.1 = none)) else pw s1 s2 (Cond.instanceMethod M.1) && pw v1 v2 (Cond.selects M.1.cls M.1 M.1)))))))
noncomputable def ckWs (k : Nat) : Bool := match mt_all[k]?, mwt[k]? with
  | some M, some t => ckW M t
  | none, none => true
  | _, _ => false
theorem ok_F : (List.range 17).all (fun on => (fpl on).all (ckF on)) = true := by decide +kernel
theorem ok_S : (List.range 17).all (fun on => (spl on).all (ckS on)) = true := by decide +kernel
theorem ok_C : (List.range 17).all (fun on => (cpl on).all (ckC on)) = true := by decide +kernel
theorem ok_K : (List.range 17).all (fun on => (kpl on).all (ckK on)) = true := by decide +kernel
theorem ok_L : (List.range 17).all (fun on => (lpl on).all (ckL on)) = true := by decide +kernel
theorem ok_X : (List.range 17).all (fun on => (xpl on).all (ckX on)) = true := by decide +kernel

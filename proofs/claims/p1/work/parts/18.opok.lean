/-! ===== what the tables must say of an instruction; what is known of the start ===== -/
def pm_opok (Ts Nw : List Cond) (Mt : List pM) (cl : List vw_C) (stat : Nat → Option (String × String × String)) (own mname : String) (cc : ByteArray) (o : pOp) : Prop := match o with
  | (pc, ins, len, r1, r2, r3) => decode cc pc = .ok (ins, len) ∧ pm_len ins len = true ∧ (match ins with
    | .ifCond _ off => 0 ≤ (pc : Int) + off
    | .if_icmp _ off => 0 ≤ (pc : Int) + off
    | .getfield idx => ∃ q : vw_C, cl[r1]? = some q ∧ r2 < q.2.2 ∧ Cond.fieldLink own idx (q.2.1 r2).1 (q.2.1 r2).2.1 (q.2.1 r2).2.2.1 ∈ Ts
    | .putfield idx => ∃ q : vw_C, cl[r1]? = some q ∧ r2 < q.2.2 ∧ Cond.fieldLink own idx (q.2.1 r2).1 (q.2.1 r2).2.1 (q.2.1 r2).2.2.1 ∈ Ts ∧ ((q.2.1 r2).2.2.2 = false ∨ ((q.2.1 r2).2.2.2 = true ∧ mname = "<init>" ∧ (q.2.1 r2).1 = own))
    | .getstatic idx => ∃ q : String × String × String, stat r1 = some q ∧ (Cond.fieldLink own idx q.1 q.2.1 q.2.2 ∈ Ts ∨ ∃ host, Cond.fieldLinkNest own idx q.1 q.2.1 q.2.2 host ∈ Nw)
    | .new idx => r3 = 0 → ∃ q : vw_C, cl[r1]? = some q ∧ Cond.classLink own idx q.1 ∈ Ts ∧ Cond.instantiable q.1 q.2.2 ∈ Ts ∧ Cond.initialized q.1 ∈ Ts
    | .newarray a => Cond.arrayClass (newarray.typeOf a) ∈ Ts
    | .anewarray idx => Cond.classLink own idx "ServoNet$Drive" ∈ Ts
    | .aastore => ∃ q : vw_C, cl[r1]? = some q ∧ q.1 = "ServoNet$Drive"
    | .multianewarray idx dims => dims = 2 ∧ r1 < 2 ∧ Cond.classLink own idx ("[" ++ (FieldType.array (pm_ty r1)).toString) ∈ Ts ∧ Cond.arrayClass (pm_ty r1) ∈ Ts
    | .ldc idx => Cond.constant own idx (Int32.ofInt r3) ∈ Ts
    | .ldc_w idx => Cond.constant own idx (Int32.ofInt r3) ∈ Ts
    | .ldc2_w idx => Cond.constantLong own idx (Int64.ofInt r3) ∈ Ts
    | .invokestatic idx => (r3 = 7 → Cond.methodLink own idx arraycopyName ∈ Ts ∧ Cond.native arraycopyName ∈ Ts ∧ Cond.static arraycopyName ∈ Ts ∧ Cond.initialized "java/lang/System" ∈ Ts) ∧ (r3 ≠ 7 → ∃ M : pM, Mt[r1]? = some M ∧ (Cond.methodLink own idx M.1 ∈ Ts ∨ (r3 = 5 ∧ ∃ host, Cond.methodLinkNest own idx M.1 host ∈ Nw)) ∧ Cond.static M.1 ∈ Ts ∧ Cond.initialized M.1.cls ∈ Ts ∧ Cond.code M.1 M.2.1 M.2.2.1 M.2.2.2.1 ∈ Ts ∧ (M.2.2.1 ≤ 22 ∧ (r3 = 8 → M.2.2.1 ≤ 21)) ∧ (M.1.cls ≠ "java/lang/invoke/MethodHandle" ∧ M.1.cls ≠ "java/lang/invoke/VarHandle" ∧ (parseMethodDescriptor M.1.desc).map (fun d => d.parameters.length) = some r2))
    | .invokespecial idx => (r3 = 0 → ∃ (M : pM) (n : Nat), r2 = n + 1 ∧ Mt[r1]? = some M ∧ Cond.methodLink own idx M.1 ∈ Ts ∧ Cond.instanceMethod M.1 ∈ Ts ∧ M.1.name = "<init>" ∧ M.2.2.2.1 = none ∧ Cond.initialized M.1.cls ∈ Ts ∧ Cond.code M.1 M.2.1 M.2.2.1 M.2.2.2.1 ∈ Ts ∧ M.2.2.1 ≤ 22 ∧ (M.1.cls ≠ "java/lang/invoke/MethodHandle" ∧ M.1.cls ≠ "java/lang/invoke/VarHandle" ∧ (parseMethodDescriptor M.1.desc).map (fun d => d.parameters.length) = some n))
        ∧ (r3 = 1 → Cond.methodLink own idx Lib.objectInit ∈ Ts)
    | .invokevirtual idx => ∃ (M : pM) (n : Nat) (q : vw_C), r2 = n + 1 ∧ Mt[r1]? = some M ∧ cl[r3.toNat]? = some q ∧ q.1 = M.1.cls ∧ Cond.methodLink own idx M.1 ∈ Ts ∧ Cond.instanceMethod M.1 ∈ Ts ∧ Cond.selects M.1.cls M.1 M.1 ∈ Ts ∧ Cond.initialized M.1.cls ∈ Ts ∧ Cond.code M.1 M.2.1 M.2.2.1 M.2.2.2.1 ∈ Ts ∧ M.2.2.1 ≤ 22 ∧ (M.1.cls ≠ "java/lang/invoke/MethodHandle" ∧ M.1.cls ≠ "java/lang/invoke/VarHandle" ∧ (parseMethodDescriptor M.1.desc).map (fun d => d.parameters.length) = some n)
    | _ => True)
/-- the classes of the tables: their fields, types, names, defaults -/
def pm_Cl (Ts : List Cond) (cl : List vw_C) (F : Nat → Nat → FieldType) (dfl : Nat → Nat × List Value) : Prop := ∀ (ci : Nat) (q : vw_C), cl[ci]? = some q → (∀ w ∈ u_ws q.1 q.2.1 q.2.2, w ∈ Ts) ∧ (∀ k, k < q.2.2 → parseFieldDescriptor (q.2.1 k).2.2.1 = some (F ci k)) ∧ (∀ a, a < q.2.2 → ∀ b, b < q.2.2 → a ≠ b → (q.2.1 a).2.1 ≠ (q.2.1 b).2.1) ∧ (dfl ci).1 = q.2.2 ∧ (∀ j, j < q.2.2 → defaultValue (F ci j) = vp_V (dfl ci).2 j) ∧ ∀ (b : Nat) (x : Nat → Nat), (dfl ci).2.map (pm_tr b x) = (dfl ci).2
/-- what is known of a state of the run: the tables' classes, the arrays from before, the words on private members, the arrays' classes -/
def pm_St (Ts Nw : List Cond) (D : va_G) (cl : List vw_C) (dA : Nat → ClassId) (b0 : Nat) (ext : Nat → Nat) (X : pX) (stat : Nat → Option (String × String × String)) (H0 : Heap) (s : State) : Prop :=
  va_K D cl (pm_tys dA) s ∧ (∀ i a, X i = some a → ext i < b0 ∧ pm_X (ext i) a.1 a.2 s H0) ∧ (∀ i q, stat i = some q → va_Z q.1 q.2.1 q.2.2 (.ref (ext i)) (fun z => b0 ≤ z) s H0) ∧ (∀ w ∈ Nw, va_Nw w s) ∧ (∀ ty : FieldType, ty = .array .int ∨ ty = .array .long ∨ ty = .object "ServoNet$Drive" → va_Nw (.arrayOver ty) s)

/-! ===== writing states ===== -/
noncomputable def ti (z : Int) : sT := .int (Int32.ofInt z)
noncomputable def tl (z : Int) : sT := .long (Int64.ofInt z)
noncomputable def tr (k : Nat) : sT := .index k
noncomputable def ui (l : List (Nat × Int)) : List (sT × sT) := l.map (fun q => (.int (Int32.ofNat q.1), .int (Int32.ofInt q.2)))
noncomputable def ul (l : List (Nat × Int)) : List (sT × sT) := l.map (fun q => (.int (Int32.ofNat q.1), .long (Int64.ofInt q.2)))
noncomputable def ca (t n : Nat) (b : sT) (u : List (sT × sT)) : Option sE := some (.inl (t, n, b, u))
noncomputable def co (c : Nat) (v : List sT) : Option sE := some (.inr (c, v))
noncomputable def hof (l : List (Option sE)) : sH := l.foldl (fun G e => hpush G e) hnil

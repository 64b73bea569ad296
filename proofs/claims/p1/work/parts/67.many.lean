/-! ===== splits along a list ===== -/
section MANY
variable {L : Nat} {xs : Nat → Int32}
theorem GL_manyA {F Fn : sFs} {t : sT} {s : sS} : ∀ (cs : List Int32) (A : sFs), (∀ c ∈ cs, GL L xs (((0, t, .int c), true) :: F) s) → (∀ f ∈ F, f ∈ A) → (∀ f ∈ Fn, f ∈ A ∨ ∃ c ∈ cs, f = ((0, t, .int c), false)) → GL L xs Fn s → GL L xs A s
  | [], A, _, _, hn, h => GL_more h (fun f hf => by
      rcases hn f hf with h1 | ⟨c, hc, -⟩
      · exact h1
      · cases hc)
  | c :: cs, A, hr, hF, hn, h => GS.split (0, t, .int c) (GL_more (hr c List.mem_cons_self) (fun f hf => by
      rcases List.mem_cons.mp hf with rfl | hf
      · exact List.mem_cons_self
      · exact List.mem_cons_of_mem _ (hF f hf))) (GL_manyA cs (((0, t, .int c), false) :: A) (fun c' hc => hr c' (List.mem_cons_of_mem _ hc)) (fun f hf => List.mem_cons_of_mem _ (hF f hf)) (fun f hf => by
      rcases hn f hf with h1 | ⟨c', hc, rfl⟩
      · exact Or.inl (List.mem_cons_of_mem _ h1)
      · rcases List.mem_cons.mp hc with rfl | hc
        · exact Or.inl List.mem_cons_self
        · exact Or.inr ⟨c', hc, rfl⟩) h)
/-- one run for each number of a list, and one for none of them -/
theorem GL_many {F : sFs} {t : sT} {s : sS} (cs : List Int32) (hr : ∀ c ∈ cs, GL L xs (((0, t, .int c), true) :: F) s) (hn : GL L xs (cs.map (fun c => ((0, t, .int c), false)) ++ F) s) : GL L xs F s :=
  GL_manyA cs F hr (fun _ h => h) (fun f hf => by
    rcases List.mem_append.mp hf with hf | hf
    · obtain ⟨c, hc, rfl⟩ := List.mem_map.mp hf
      exact Or.inr ⟨c, hc, rfl⟩
    · exact Or.inl hf) hn
theorem GL_all {F : sFs} {t : sT} {s : sS} {n : Nat} {cs : List Int32} (h : cs.all (fun c => runN [] n (((0, t, .int c), true) :: F) s) = true) : ∀ c ∈ cs, GL L xs (((0, t, .int c), true) :: F) s := fun c hc => g_end (List.all_eq_true.mp h c hc)
end MANY

/-! contracts of the smallest methods -/
section
variable {sc : am_Sc} {k q : Nat} {L st : List am_V} {n : Nat} {μ : am_M} {Q : Option am_V → Nat → am_M → Prop}
/-- the answer v, nothing changed -/
abbrev PU (v : am_V) (n : Nat) (μ : am_M) : Option am_V → Nat → am_M → Prop := fun r n' μ' => r = some v ∧ n' = n ∧ μ' = μ
/-- an int, and memory with P -/
abbrev PI (n : Nat) (P : Int → am_M → Prop) : Option am_V → Nat → am_M → Prop := fun r n' μ' => ∃ x, r = some (0, x) ∧ n' = n ∧ P x μ'
/-- no answer, memory with P -/
abbrev PV (n : Nat) (P : am_M → Prop) : Option am_V → Nat → am_M → Prop := fun r n' μ' => r = none ∧ n' = n ∧ P μ'
theorem kpure {v : am_V} (h : AW sc k q L (v :: st) n μ Q) : ∀ r n' μ', PU v n μ r n' μ' → AW sc k q L (r.toList ++ st) n' μ' Q := by
  intro r n' μ' ⟨h1, h2, h3⟩
  rw [h1, h2, h3]
  exact h
theorem kint {P : Int → am_M → Prop} (h : ∀ x μ', P x μ' → AW sc k q L ((0, x) :: st) n μ' Q) : ∀ r n' μ', PI n P r n' μ' → AW sc k q L (r.toList ++ st) n' μ' Q := by
  intro r n' μ' ⟨x, h1, h2, h3⟩
  rw [h1, h2]
  exact h x μ' h3
theorem kvoid {P : am_M → Prop} (h : ∀ μ', P μ' → AW sc k q L st n μ' Q) : ∀ r n' μ', PV n P r n' μ' → AW sc k q L (r.toList ++ st) n' μ' Q := by
  intro r n' μ' ⟨h1, h2, h3⟩
  rw [h1, h2]
  exact h μ' h3
end
theorem am_ss {μ : am_M} {a j x : Int} : am_set μ a j x a j = x := by unfold am_set; rw [if_pos ⟨rfl, rfl⟩]
theorem am_sn {μ : am_M} {a j x b i : Int} (h : b ≠ a ∨ i ≠ j) : am_set μ a j x b i = μ b i := by unfold am_set; rw [if_neg (by omega)]
/-! the reference: small methods -/
theorem pX7_isLine (n : Nat) (μ : am_M) (x : Int) (hl : Lay n μ) : AC 92 [(2, 32), (0, x)] n μ (PU (0, if 0 ≤ x ∧ x < μ 32 7 then 1 else 0) n μ) := by
  refine AC.of rfl ?_
  refine aw_iload_n (q := 1) mX7_isLine dX7_isLine_0 rfl rfl ?_
  refine aw_if_lt (tgt := 16) (q := 4) mX7_isLine dX7_isLine_1 rfl (by decide) (fun c_1 => ?_) (fun c_1 => ?_)
  · refine aw_iconst (q := 17) mX7_isLine dX7_isLine_16 rfl rfl ?_
    refine aw_zret mX7_isLine dX7_isLine_17 (by first | exact Or.inl rfl | exact Or.inr rfl | assumption | omega) ?_
    exact ⟨by rw [if_neg (by omega)], rfl, rfl⟩
  · refine aw_iload_n (q := 5) mX7_isLine dX7_isLine_4 rfl rfl ?_
    refine aw_aload_n (q := 6) mX7_isLine dX7_isLine_5 rfl rfl ?_
    refine aw_get (t := 0) (ji := 7) (q := 9) mX7_isLine dX7_isLine_6 rfl f7_133 rfl kd_32 rfl rfl ?_
    refine aw_icmp_ge (tgt := 16) (q := 12) mX7_isLine dX7_isLine_9 rfl (by decide) (fun c_9 => ?_) (fun c_9 => ?_)
    · refine aw_iconst (q := 17) mX7_isLine dX7_isLine_16 rfl rfl ?_
      refine aw_zret mX7_isLine dX7_isLine_17 (by first | exact Or.inl rfl | exact Or.inr rfl | assumption | omega) ?_
      exact ⟨by rw [if_neg (by omega)], rfl, rfl⟩
    · refine aw_iconst (q := 13) mX7_isLine dX7_isLine_12 rfl rfl ?_
      refine aw_goto (q := 17) mX7_isLine dX7_isLine_13 (by decide) ?_
      refine aw_zret mX7_isLine dX7_isLine_17 (by first | exact Or.inl rfl | exact Or.inr rfl | assumption | omega) ?_
      exact ⟨by rw [if_pos (by omega)], rfl, rfl⟩

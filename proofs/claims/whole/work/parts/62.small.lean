/-! small methods of class and reference; what holds between calls -/
abbrev PE (v : Int) (n : Nat) (μ1 : am_M) : Option am_V → Nat → am_M → Prop := PI n (fun x μ' => x = v ∧ μ' = μ1)
theorem kset {sc : am_Sc} {k q : Nat} {L st : List am_V} {n : Nat} {Q : Option am_V → Nat → am_M → Prop} {v : Int} {μ1 : am_M} (h : ∀ μ2, μ2 = μ1 → AW sc k q L ((0, v) :: st) n μ2 Q) : ∀ r n' μ', PE v n μ1 r n' μ' → AW sc k q L (r.toList ++ st) n' μ' Q := by
  rintro r n' μ' ⟨x, h1, h2, h3, h4⟩
  rw [h1, h2, h3]
  exact h μ' h4
theorem pX6_refuse (n : Nat) (μ : am_M) (w : Int) : AC 81 [(2, 0), (0, w)] n μ (PE 0 n (am_set μ 0 2 w)) := by
  refine AC.of rfl ?_
  refine aw_aload_n (q := 1) mX6_refuse dX6_refuse_0 rfl rfl ?_
  refine aw_iload_n (q := 2) mX6_refuse dX6_refuse_1 rfl rfl ?_
  refine aw_put (t := 0) (ji := 2) (q := 5) mX6_refuse dX6_refuse_2 rfl f6_25 rfl kd_0 rfl (Or.inl rfl) (Or.inl (by decide)) (fun μ_2 e_2 => ?_)
  refine aw_iconst (q := 6) mX6_refuse dX6_refuse_5 rfl rfl ?_
  refine aw_zret mX6_refuse dX6_refuse_6 (by first | exact Or.inl rfl | exact Or.inr rfl | assumption | omega) ?_
  exact ⟨0, rfl, rfl, rfl, e_2⟩
theorem pX6_none (n : Nat) (μ : am_M) (w : Int) : AC 83 [(2, 0), (0, w)] n μ (PE (-1) n (am_set μ 0 2 w)) := by
  refine AC.of rfl ?_
  refine aw_aload_n (q := 1) mX6_none dX6_none_0 rfl rfl ?_
  refine aw_iload_n (q := 2) mX6_none dX6_none_1 rfl rfl ?_
  refine aw_put (t := 0) (ji := 2) (q := 5) mX6_none dX6_none_2 rfl f6_25 rfl kd_0 rfl (Or.inl rfl) (Or.inl (by decide)) (fun μ_2 e_2 => ?_)
  refine aw_iconst (q := 6) mX6_none dX6_none_5 rfl rfl ?_
  refine aw_iret mX6_none dX6_none_6 ?_
  exact ⟨-1, rfl, rfl, rfl, e_2⟩
theorem pX6_give (n : Nat) (μ : am_M) (v : Int) : AC 82 [(2, 0), (0, v)] n μ (PE v n (am_set μ 0 2 0)) := by
  refine AC.of rfl ?_
  refine aw_aload_n (q := 1) mX6_give dX6_give_0 rfl rfl ?_
  refine aw_iconst (q := 2) mX6_give dX6_give_1 rfl rfl ?_
  refine aw_put (t := 0) (ji := 2) (q := 5) mX6_give dX6_give_2 rfl f6_25 rfl kd_0 rfl (Or.inl rfl) (Or.inl (by decide)) (fun μ_2 e_2 => ?_)
  refine aw_iload_n (q := 6) mX6_give dX6_give_5 rfl rfl ?_
  refine aw_iret mX6_give dX6_give_6 ?_
  exact ⟨v, rfl, rfl, rfl, e_2⟩
theorem pX6_accept (n : Nat) (μ : am_M) (hl : Lay n μ) : AC 80 [(2, 0)] n μ (PE 1 n (am_set (am_set μ 4 5 1) 0 2 0)) := by
  refine AC.of rfl ?_
  refine aw_aload_n (q := 1) mX6_accept dX6_accept_0 rfl rfl ?_
  refine aw_get (t := 2) (ji := 1) (q := 4) mX6_accept dX6_accept_1 rfl f6_21 rfl kd_0 rfl (ly_0_1 hl) ?_
  refine aw_iconst (q := 5) mX6_accept dX6_accept_4 rfl rfl ?_
  refine aw_put (t := 0) (ji := 5) (q := 8) mX6_accept dX6_accept_5 rfl f6_204 rfl kd_4 rfl (Or.inl rfl) (by first | exact Or.inr (Or.inl rfl) | exact Or.inr (Or.inr rfl) | exact Or.inr (by assumption) | exact Or.inr (by omega)) (fun μ_5 e_5 => ?_)
  have hl : Lay n μ_5 := by rw [e_5]; exact Lay.setF lf_4_5 hl
  refine aw_aload_n (q := 9) mX6_accept dX6_accept_8 rfl rfl ?_
  refine aw_iconst (q := 10) mX6_accept dX6_accept_9 rfl rfl ?_
  refine aw_put (t := 0) (ji := 2) (q := 13) mX6_accept dX6_accept_10 rfl f6_25 rfl kd_0 rfl (Or.inl rfl) (Or.inl (by decide)) (fun μ_10 e_10 => ?_)
  have hl : Lay n μ_10 := by rw [e_10]; exact Lay.setF lf_0_2 hl
  refine aw_iconst (q := 14) mX6_accept dX6_accept_13 rfl rfl ?_
  refine aw_zret mX6_accept dX6_accept_14 (by first | exact Or.inl rfl | exact Or.inr rfl | assumption | omega) ?_
  exact ⟨1, rfl, rfl, rfl, by rw [e_10, e_5]⟩
theorem pX6_isLineHeight (n : Nat) (μ : am_M) (h : Int) : AC 85 [(0, h)] n μ (PB (1 ≤ h ∧ h ≤ 50) n μ) := by
  refine AC.of rfl ?_
  refine aw_iload_n (q := 1) mX6_isLineHeight dX6_isLineHeight_0 rfl rfl ?_
  refine aw_iconst (q := 2) mX6_isLineHeight dX6_isLineHeight_1 rfl rfl ?_
  refine aw_bipush (q := 4) mX6_isLineHeight dX6_isLineHeight_2 rfl rfl ?_
  refine aw_s3 (q := 7) mX6_isLineHeight dX6_isLineHeight_4 rfl lm6_29 l6_29 k85_84 rfl rfl rfl (pX6_within n μ h 1 50) (kint (fun y μ3 hy => ?_))
  obtain ⟨hm, hy⟩ := hy
  subst hm
  refine aw_zret mX6_isLineHeight dX6_isLineHeight_7 (by rcases hy with ⟨h1, -⟩ | ⟨h1, -⟩ <;> omega) ?_
  exact ⟨y, rfl, rfl, rfl, hy⟩
theorem pX6_isNoteHeight (n : Nat) (μ : am_M) (h : Int) : AC 86 [(0, h)] n μ (PB (1 ≤ h ∧ h ≤ 100) n μ) := by
  refine AC.of rfl ?_
  refine aw_iload_n (q := 1) mX6_isNoteHeight dX6_isNoteHeight_0 rfl rfl ?_
  refine aw_iconst (q := 2) mX6_isNoteHeight dX6_isNoteHeight_1 rfl rfl ?_
  refine aw_bipush (q := 4) mX6_isNoteHeight dX6_isNoteHeight_2 rfl rfl ?_
  refine aw_s3 (q := 7) mX6_isNoteHeight dX6_isNoteHeight_4 rfl lm6_29 l6_29 k86_84 rfl rfl rfl (pX6_within n μ h 1 100) (kint (fun y μ3 hy => ?_))
  obtain ⟨hm, hy⟩ := hy
  subst hm
  refine aw_zret mX6_isNoteHeight dX6_isNoteHeight_7 (by rcases hy with ⟨h1, -⟩ | ⟨h1, -⟩ <;> omega) ?_
  exact ⟨y, rfl, rfl, rfl, hy⟩
theorem pX0_hasLine (n : Nat) (μ : am_M) (l : Int) : AC 3 [(2, 1), (0, l)] n μ (PB (0 ≤ l ∧ l < μ 1 2) n μ) := by
  refine AC.of rfl ?_
  refine aw_iload_n (q := 1) mX0_hasLine dX0_hasLine_0 rfl rfl ?_
  refine aw_if_lt (tgt := 16) (q := 4) mX0_hasLine dX0_hasLine_1 rfl (by decide) (fun c_1 => ?_) (fun c_1 => ?_)
  · refine aw_iconst (q := 17) mX0_hasLine dX0_hasLine_16 rfl rfl ?_
    refine aw_zret mX0_hasLine dX0_hasLine_17 (by first | exact Or.inl rfl | exact Or.inr rfl | assumption | omega) ?_
    exact ⟨0, rfl, rfl, rfl, Or.inr ⟨rfl, by omega⟩⟩
  · refine aw_iload_n (q := 5) mX0_hasLine dX0_hasLine_4 rfl rfl ?_
    refine aw_aload_n (q := 6) mX0_hasLine dX0_hasLine_5 rfl rfl ?_
    refine aw_get (t := 0) (ji := 2) (q := 9) mX0_hasLine dX0_hasLine_6 rfl f0_34 rfl kd_1 rfl rfl ?_
    refine aw_icmp_ge (tgt := 16) (q := 12) mX0_hasLine dX0_hasLine_9 rfl (by decide) (fun c_9 => ?_) (fun c_9 => ?_)
    · refine aw_iconst (q := 17) mX0_hasLine dX0_hasLine_16 rfl rfl ?_
      refine aw_zret mX0_hasLine dX0_hasLine_17 (by first | exact Or.inl rfl | exact Or.inr rfl | assumption | omega) ?_
      exact ⟨0, rfl, rfl, rfl, Or.inr ⟨rfl, by omega⟩⟩
    · refine aw_iconst (q := 13) mX0_hasLine dX0_hasLine_12 rfl rfl ?_
      refine aw_goto (q := 17) mX0_hasLine dX0_hasLine_13 (by decide) ?_
      refine aw_zret mX0_hasLine dX0_hasLine_17 (by first | exact Or.inl rfl | exact Or.inr rfl | assumption | omega) ?_
      exact ⟨1, rfl, rfl, rfl, Or.inl ⟨rfl, by omega⟩⟩
/-- a reference, nothing changed -/
theorem kref {sc : am_Sc} {k q : Nat} {L st : List am_V} {n : Nat} {μ : am_M} {Q : Option am_V → Nat → am_M → Prop} {P : Int → Prop} (h : ∀ a, P a → AW sc k q L ((2, a) :: st) n μ Q) : ∀ r n' μ', (∃ a, r = some (2, a) ∧ n' = n ∧ μ' = μ ∧ P a) → AW sc k q L (r.toList ++ st) n' μ' Q := by
  rintro r n' μ' ⟨a, h1, h2, h3, h4⟩
  rw [h1, h2, h3]
  exact h a h4
theorem pX0_find (n : Nat) (μ : am_M) (k : Int) (hl : Lay n μ) (hB : Bk μ) (hC : Cb n μ) : AC 4 [(2, 1), (0, k)] n μ (fun r n' μ' => ∃ a, r = some (2, a) ∧ n' = n ∧ μ' = μ ∧ ((a = nf k ∧ 0 ≤ k ∧ k < μ 32 8) ∨ (a = -1 ∧ ¬ (0 ≤ k ∧ k < μ 32 8)))) := by
  obtain ⟨cn, ⟨c2, c3, -⟩, ch, ck⟩ := id hC
  have b7 := hB.2.2.2.2.2.2.1
  refine AC.of rfl ?_
  refine aw_iload_n (q := 1) mX0_find dX0_find_0 rfl rfl ?_
  refine aw_if_lt (tgt := 21) (q := 4) mX0_find dX0_find_1 rfl (by decide) (fun c_1 => ?_) (fun c_1 => ?_)
  · refine aw_null (q := 22) mX0_find dX0_find_21 rfl ?_
    refine aw_aret mX0_find dX0_find_22 ?_
    exact ⟨-1, rfl, rfl, rfl, Or.inr ⟨rfl, by omega⟩⟩
  · refine aw_iload_n (q := 5) mX0_find dX0_find_4 rfl rfl ?_
    refine aw_aload_n (q := 6) mX0_find dX0_find_5 rfl rfl ?_
    refine aw_get (t := 0) (ji := 3) (q := 9) mX0_find dX0_find_6 rfl f0_37 rfl kd_1 rfl c3 ?_
    refine aw_icmp_ge (tgt := 21) (q := 12) mX0_find dX0_find_9 rfl (by decide) (fun c_9 => ?_) (fun c_9 => ?_)
    · refine aw_null (q := 22) mX0_find dX0_find_21 rfl ?_
      refine aw_aret mX0_find dX0_find_22 ?_
      exact ⟨-1, rfl, rfl, rfl, Or.inr ⟨rfl, by omega⟩⟩
    · refine aw_aload_n (q := 13) mX0_find dX0_find_12 rfl rfl ?_
      refine aw_get (t := 2) (ji := 1) (q := 16) mX0_find dX0_find_13 rfl f0_17 rfl kd_1 rfl (ly_1_1 hl) ?_
      refine aw_iload_n (q := 17) mX0_find dX0_find_16 rfl rfl ?_
      refine aw_aald (q := 18) mX0_find dX0_find_17 rfl kd_3 (by omega) (by omega) (ck k (by omega) (by omega)).1 ?_
      refine aw_goto (q := 22) mX0_find dX0_find_18 (by decide) ?_
      refine aw_aret mX0_find dX0_find_22 ?_
      exact ⟨nf k, rfl, rfl, rfl, Or.inl ⟨rfl, by omega, by omega⟩⟩
theorem pX7_isNote (n : Nat) (μ : am_M) (x : Int) : AC 93 [(2, 32), (0, x)] n μ (PB (0 ≤ x ∧ x < μ 32 8) n μ) := by
  refine AC.of rfl ?_
  refine aw_iload_n (q := 1) mX7_isNote dX7_isNote_0 rfl rfl ?_
  refine aw_if_lt (tgt := 16) (q := 4) mX7_isNote dX7_isNote_1 rfl (by decide) (fun c_1 => ?_) (fun c_1 => ?_)
  · refine aw_iconst (q := 17) mX7_isNote dX7_isNote_16 rfl rfl ?_
    refine aw_zret mX7_isNote dX7_isNote_17 (by first | exact Or.inl rfl | exact Or.inr rfl | assumption | omega) ?_
    exact ⟨0, rfl, rfl, rfl, Or.inr ⟨rfl, by omega⟩⟩
  · refine aw_iload_n (q := 5) mX7_isNote dX7_isNote_4 rfl rfl ?_
    refine aw_aload_n (q := 6) mX7_isNote dX7_isNote_5 rfl rfl ?_
    refine aw_get (t := 0) (ji := 8) (q := 9) mX7_isNote dX7_isNote_6 rfl f7_136 rfl kd_32 rfl rfl ?_
    refine aw_icmp_ge (tgt := 16) (q := 12) mX7_isNote dX7_isNote_9 rfl (by decide) (fun c_9 => ?_) (fun c_9 => ?_)
    · refine aw_iconst (q := 17) mX7_isNote dX7_isNote_16 rfl rfl ?_
      refine aw_zret mX7_isNote dX7_isNote_17 (by first | exact Or.inl rfl | exact Or.inr rfl | assumption | omega) ?_
      exact ⟨0, rfl, rfl, rfl, Or.inr ⟨rfl, by omega⟩⟩
    · refine aw_iconst (q := 13) mX7_isNote dX7_isNote_12 rfl rfl ?_
      refine aw_goto (q := 17) mX7_isNote dX7_isNote_13 (by decide) ?_
      refine aw_zret mX7_isNote dX7_isNote_17 (by first | exact Or.inl rfl | exact Or.inr rfl | assumption | omega) ?_
      exact ⟨1, rfl, rfl, rfl, Or.inl ⟨rfl, by omega⟩⟩
theorem pX7_isLineB (n : Nat) (μ : am_M) (x : Int) (hl : Lay n μ) : AC 92 [(2, 32), (0, x)] n μ (PB (0 ≤ x ∧ x < μ 32 7) n μ) := by
  refine AW.mono (pX7_isLine n μ x hl) ?_
  rintro r n' μ' ⟨h1, h2, h3⟩
  by_cases hc : 0 ≤ x ∧ x < μ 32 7
  · rw [if_pos hc] at h1; exact ⟨1, h1, h2, h3, Or.inl ⟨rfl, hc⟩⟩
  · rw [if_neg hc] at h1; exact ⟨0, h1, h2, h3, Or.inr ⟨rfl, hc⟩⟩
theorem pX7_refuse (n : Nat) (μ : am_M) (w : Int) : AC 89 [(2, 32), (0, w)] n μ (PE (-1) n (am_set μ 32 0 w)) := by
  refine AC.of rfl ?_
  refine aw_aload_n (q := 1) mX7_refuse dX7_refuse_0 rfl rfl ?_
  refine aw_iload_n (q := 2) mX7_refuse dX7_refuse_1 rfl rfl ?_
  refine aw_put (t := 0) (ji := 0) (q := 5) mX7_refuse dX7_refuse_2 rfl f7_126 rfl kd_32 rfl (Or.inl rfl) (Or.inl (by decide)) (fun μ_2 e_2 => ?_)
  refine aw_iconst (q := 6) mX7_refuse dX7_refuse_5 rfl rfl ?_
  refine aw_iret mX7_refuse dX7_refuse_6 ?_
  exact ⟨-1, rfl, rfl, rfl, e_2⟩
theorem pX7_no (n : Nat) (μ : am_M) (w : Int) : AC 90 [(2, 32), (0, w)] n μ (PE 0 n (am_set μ 32 0 w)) := by
  refine AC.of rfl ?_
  refine aw_aload_n (q := 1) mX7_no dX7_no_0 rfl rfl ?_
  refine aw_iload_n (q := 2) mX7_no dX7_no_1 rfl rfl ?_
  refine aw_put (t := 0) (ji := 0) (q := 5) mX7_no dX7_no_2 rfl f7_126 rfl kd_32 rfl (Or.inl rfl) (Or.inl (by decide)) (fun μ_2 e_2 => ?_)
  refine aw_iconst (q := 6) mX7_no dX7_no_5 rfl rfl ?_
  refine aw_zret mX7_no dX7_no_6 (by first | exact Or.inl rfl | exact Or.inr rfl | assumption | omega) ?_
  exact ⟨0, rfl, rfl, rfl, e_2⟩
theorem pX7_done (n : Nat) (μ : am_M) : AC 91 [(2, 32)] n μ (PE 1 n (am_set μ 32 21 0)) := by
  refine AC.of rfl ?_
  refine aw_aload_n (q := 1) mX7_done dX7_done_0 rfl rfl ?_
  refine aw_iconst (q := 2) mX7_done dX7_done_1 rfl rfl ?_
  refine aw_put (t := 0) (ji := 21) (q := 5) mX7_done dX7_done_2 rfl f7_129 rfl kd_32 rfl (Or.inl rfl) (by first | exact Or.inr (Or.inl rfl) | exact Or.inr (Or.inr rfl) | exact Or.inr (by assumption) | exact Or.inr (by omega)) (fun μ_2 e_2 => ?_)
  refine aw_iconst (q := 6) mX7_done dX7_done_5 rfl rfl ?_
  refine aw_zret mX7_done dX7_done_6 (by first | exact Or.inl rfl | exact Or.inr rfl | assumption | omega) ?_
  exact ⟨1, rfl, rfl, rfl, e_2⟩
/-- what holds between calls: the reference's half, the class's half -/
def Mp (μ : am_M) : Prop := (μ 32 21 = 1 ∧ MS μ) ∨ μ 32 21 = 0
def Cp (μ : am_M) : Prop := μ 4 5 = 1 ∨ (μ 4 5 = 0 ∧ ∃ m, BE μ m ∧ MS m ∧ Cls μ m)
def J (n : Nat) (μ : am_M) : Prop := Lay n μ ∧ Bk μ ∧ Cb n μ ∧ Bd μ ∧ μ 0 2 = μ 32 0 ∧ Mp μ ∧ Cp μ
/-- a call of both: alike, and it holds again -/
def Prx (kx km : Nat) (as : List am_V) (n : Nat) (μ : am_M) : Prop := AC kx ((2, 0) :: as) n μ (fun r n1 μ1 => ∃ x, r = some (0, x) ∧ AC km ((2, 32) :: as) n1 μ1 (fun r' n2 μ2 => r' = some (0, x) ∧ J n2 μ2))
theorem Prx.of {kx km : Nat} {as : List am_V} {n : Nat} {μ : am_M} {R : Int → Nat → am_M → Prop} (h : AC kx ((2, 0) :: as) n μ (fun r n1 μ1 => ∃ x, r = some (0, x) ∧ R x n1 μ1)) (h2 : ∀ x n1 μ1, R x n1 μ1 → AC km ((2, 32) :: as) n1 μ1 (fun r' n2 μ2 => r' = some (0, x) ∧ J n2 μ2)) : Prx kx km as n μ := by
  refine AW.mono h ?_
  rintro r n1 μ1 ⟨x, e, hr⟩
  exact ⟨x, e, h2 x n1 μ1 hr⟩
/-- status and thrown alone -/
def Sst (a j : Int) : Prop := (a = 0 ∧ j = 2) ∨ (a = 32 ∧ (j = 0 ∨ j = 1))
theorem Sst_lay {n : Nat} {μ μ1 : am_M} (hl : Lay n μ) (h : Of Sst μ μ1) : Lay n μ1 := hl.of h (fun q hq z => by
  have h1 := List.all_eq_true.mp am_layWk q hq
  have h2 : am_layL.all (fun q => !(decide (q.1 = 0 ∧ q.2.1 = 2))) = true := by decide +kernel
  have h3 := List.all_eq_true.mp h2 q hq
  simp only [Bool.and_eq_true, Bool.not_eq_true', decide_eq_false_iff_not] at h1 h3
  unfold Sst at z
  omega) (fun a ha z => by unfold Sst at z; omega)
theorem Sst.be {μ μ1 : am_M} (h : Of Sst μ μ1) : BE μ μ1 := h.be (fun a j z => by unfold Sst at z; omega)
theorem Sst.ne {μ μ1 : am_M} (h : Of Sst μ μ1) : NE μ μ1 := ⟨fun j _ _ => h 1 j (by unfold Sst; omega), fun a j h1 _ => h a j (by unfold Sst; omega)⟩
theorem Sst.cb {n : Nat} {μ μ1 : am_M} (h : Of Sst μ μ1) (hC : Cb n μ) : Cb n μ1 := hC.tr (Sst.ne h) (Sst.be h) (fun k => h 43 k (by unfold Sst; omega)) (fun j => h 2 j (by unfold Sst; omega)) (fun j => h 3 j (by unfold Sst; omega))
theorem Bd.tr {μ μ1 : am_M} (hb : BE μ μ1) (h43 : ∀ k, μ1 43 k = μ 43 k) (h : Bd μ) : Bd μ1 := fun k k0 k1 => by
  rw [hb.1 8 (by decide) (by decide)] at k1
  rw [h43, hb.1 7 (by decide) (by decide)]
  exact h k k0 k1
theorem MS.keep {μ μ1 : am_M} (hb : BE μ μ1) (h : MS μ) (h32 : ∀ j, 21 ≤ j → j ≤ 23 → μ1 32 j = μ 32 j) (hc : ∀ a j, 45 ≤ a → a ≤ 55 → μ1 a j = μ a j) : MS μ1 := by
  obtain ⟨h1, h2, h3, h4⟩ := h
  have e23 := h32 23 (by decide) (by decide)
  have e22 := h32 22 (by decide) (by decide)
  have hch : Chain μ1 (μ 32 23) := h1.keep hb (fun q _ _ => ⟨hc 45 q (by decide) (by decide), hc 46 q (by decide) (by decide), hc 48 q (by decide) (by decide)⟩) (fun j _ _ => hc 47 j (by decide) (by decide)) (fun l _ => ⟨hc 49 l (by decide) (by decide), hc 50 l (by decide) (by decide)⟩) (fun q k q1 q2 _ => hc q k (by omega) (by omega))
  have efr : frP μ1 (μ 32 23) = frP μ (μ 32 23) := by
    unfold frP
    split
    · rfl
    · rw [hc 45 _ (by decide) (by decide), hc 46 _ (by decide) (by decide)]
  unfold MS
  rw [e23, e22, efr, hc 47 _ (by decide) (by decide), hc 47 _ (by decide) (by decide), hb.1 7 (by decide) (by decide), md_held_be hb]
  exact ⟨hch, h2, h3, h4⟩
theorem Mp.keep {μ μ1 : am_M} (hb : BE μ μ1) (h : Mp μ) (h32 : ∀ j, 21 ≤ j → j ≤ 23 → μ1 32 j = μ 32 j) (hc : ∀ a j, 45 ≤ a → a ≤ 55 → μ1 a j = μ a j) : Mp μ1 := by
  rcases h with ⟨h1, h2⟩ | h1
  · exact Or.inl ⟨(h32 21 (by decide) (by decide)).trans h1, h2.keep hb h32 hc⟩
  · exact Or.inr ((h32 21 (by decide) (by decide)).trans h1)
theorem Cp.keep {μ μ1 : am_M} (hb : BE μ μ1) (h : Cp μ) (h4 : ∀ j, μ1 4 j = μ 4 j) (hc : ∀ a j, 5 ≤ a → a ≤ 16 → μ1 a j = μ a j) (hn : ∀ k j, 0 ≤ k → 11 ≤ j → j ≤ 14 → μ1 (nf k) j = μ (nf k) j) : Cp μ1 := by
  rcases h with h1 | ⟨h1, m, h2, h3, h5⟩
  · exact Or.inl ((h4 5).trans h1)
  · exact Or.inr ⟨(h4 5).trans h1, m, hb.symm.trans h2, h3, h5.tr (fun j _ => h4 j) hc hn⟩
theorem J.no {n : Nat} {μ μ1 : am_M} (hJ : J n μ) (h : Of Sst μ μ1) (hs : μ1 0 2 = μ1 32 0) : J n μ1 := by
  obtain ⟨h1, h2, h3, h4, h5, h6, h7⟩ := hJ
  exact ⟨Sst_lay h1 h, h2.tr (Sst.be h), Sst.cb h h3, h4.tr (Sst.be h) (fun k => h 43 k (by unfold Sst; omega)), hs, h6.keep (Sst.be h) (fun j _ _ => h 32 j (by unfold Sst; omega)) (fun a j _ _ => h a j (by unfold Sst; omega)), h7.keep (Sst.be h) (fun j => h 4 j (by unfold Sst; omega)) (fun a j _ _ => h a j (by unfold Sst; omega)) (fun k j hk _ _ => h _ j (by unfold Sst nf; omega))⟩
theorem Nb.at {μ μ1 : am_M} {k : Int} (h7 : μ 32 7 ≤ μ1 32 7) (h : ∀ a, 34 ≤ a → a ≤ 42 → μ1 a k = μ a k) (h44 : ∀ c, 0 ≤ c → c < 3 → μ1 44 (3 * k + c) = μ 44 (3 * k + c)) (hN : Nb μ k) : Nb μ1 k := by
  unfold Nb at hN ⊢
  rw [h 34 (by decide) (by decide), h 35 (by decide) (by decide), h 36 (by decide) (by decide), h 37 (by decide) (by decide), h 38 (by decide) (by decide), h 39 (by decide) (by decide), h 40 (by decide) (by decide), h 41 (by decide) (by decide), h 42 (by decide) (by decide)]
  obtain ⟨a1, a2, a3, a4, a5, a6, a7, a8, a9, a10, a11, a12⟩ := hN
  refine ⟨by omega, a2, a3, a4, a5, a6, a7, a8, a9, a10, fun c h0 h1 => ?_, a12⟩
  rw [h44 c h0 (by omega)]
  exact a11 c h0 h1
theorem Nm.at {μ μ1 : am_M} {k : Int} (h41 : μ 41 k ≤ 3) (h : ∀ a, 34 ≤ a → a ≤ 43 → μ1 a k = μ a k) (h44 : ∀ c, 0 ≤ c → c < 3 → μ1 44 (3 * k + c) = μ 44 (3 * k + c)) (hn : ∀ j, 0 ≤ j → j ≤ 10 → μ1 (nf k) j = μ (nf k) j) (hn2 : ∀ c, 0 ≤ c → c < 3 → μ1 (nf k + 1) c = μ (nf k + 1) c) (hN : Nm μ k) : Nm μ1 k := by
  unfold Nm at hN ⊢
  rw [h 34 (by decide) (by decide), h 35 (by decide) (by decide), h 36 (by decide) (by decide), h 37 (by decide) (by decide), h 38 (by decide) (by decide), h 39 (by decide) (by decide), h 40 (by decide) (by decide), h 41 (by decide) (by decide), h 42 (by decide) (by decide), h 43 (by decide) (by decide), hn 0 (by decide) (by decide), hn 1 (by decide) (by decide), hn 2 (by decide) (by decide), hn 3 (by decide) (by decide), hn 5 (by decide) (by decide), hn 6 (by decide) (by decide), hn 7 (by decide) (by decide), hn 8 (by decide) (by decide), hn 9 (by decide) (by decide), hn 10 (by decide) (by decide)]
  obtain ⟨a1, a2, a3, a4, a5, a6, a7, a8, a9, a10, a11⟩ := hN
  refine ⟨a1, a2, a3, a4, a5, a6, a7, a8, a9, a10, fun c h0 h1 => ?_⟩
  rw [h44 c h0 (by omega), hn2 c h0 (by omega)]
  exact a11 c h0 h1
/-- one note changes -/
theorem J.upd {n : Nat} {μ μ2 : am_M} {q : Int} (hJ : J n μ) (hl : Lay n μ2) (h32 : ∀ j, 2 ≤ j → j ≤ 8 → μ2 32 j = μ 32 j) (h1 : ∀ j, 2 ≤ j → j ≤ 8 → μ2 1 j = μ 1 j) (h2 : ∀ j, μ2 2 j = μ 2 j) (h3 : ∀ j, μ2 3 j = μ 3 j) (h33 : ∀ j, μ2 33 j = μ 33 j) (hk : ∀ k, 0 ≤ k → k < μ 32 8 → k ≠ q → (∀ a, 34 ≤ a → a ≤ 43 → μ2 a k = μ a k) ∧ (∀ c, 0 ≤ c → c < 3 → μ2 44 (3 * k + c) = μ 44 (3 * k + c)) ∧ (∀ j, 0 ≤ j → j ≤ 10 → μ2 (nf k) j = μ (nf k) j) ∧ ∀ c, 0 ≤ c → c < 3 → μ2 (nf k + 1) c = μ (nf k + 1) c) (hq : Nb μ2 q ∧ Nm μ2 q ∧ -1 ≤ μ2 43 q ∧ μ2 43 q < μ 32 7) (hs : μ2 0 2 = μ2 32 0) (hM : Mp μ2) (hP : Cp μ2) : J n μ2 := by
  obtain ⟨j1, hB, hC, hD, j5, j6, j7⟩ := hJ
  obtain ⟨b1, b2, b3, b4, b5, b6, b7, b8, b9⟩ := hB
  obtain ⟨cn, ⟨c2, c3, c4, c5, c6, c7, c8⟩, ch, ck⟩ := hC
  have e2 := h32 2 (by decide) (by decide)
  have e3 := h32 3 (by decide) (by decide)
  have e4 := h32 4 (by decide) (by decide)
  have e5 := h32 5 (by decide) (by decide)
  have e6 := h32 6 (by decide) (by decide)
  have e7 := h32 7 (by decide) (by decide)
  have e8 := h32 8 (by decide) (by decide)
  refine ⟨hl, ⟨by rw [e2]; exact b1, by rw [e3]; exact b2, by rw [e4]; exact b3, by rw [e5]; exact b4, by rw [e6]; exact b5, by rw [e7]; exact b6, by rw [e8]; exact b7, fun l l0 l1 => by rw [h33]; exact b8 l l0 (by omega), fun k k0 k1 => ?_⟩, ⟨by rw [e8]; exact cn, ⟨by rw [e7, h1 2 (by decide) (by decide)]; exact c2, by rw [e8, h1 3 (by decide) (by decide)]; exact c3, by rw [e2, h1 4 (by decide) (by decide)]; exact c4, by rw [e3, h1 5 (by decide) (by decide)]; exact c5, by rw [e4, h1 6 (by decide) (by decide)]; exact c6, by rw [e5, h1 7 (by decide) (by decide)]; exact c7, by rw [e6, h1 8 (by decide) (by decide)]; exact c8⟩, fun l l0 l1 => by rw [h2, h33]; exact ch l l0 (by omega), fun k k0 k1 => ?_⟩, fun k k0 k1 => ?_, hs, hM, hP⟩
  · rw [e8] at k1
    by_cases hkq : k = q
    · rw [hkq]; exact hq.1
    · obtain ⟨t1, t2, t3, t4⟩ := hk k k0 k1 hkq
      exact (b9 k k0 k1).at (by omega) (fun a a0 a1 => t1 a a0 (by omega)) t2
  · rw [e8] at k1
    rw [h3]
    by_cases hkq : k = q
    · rw [hkq] at k0 k1 ⊢
      exact ⟨(ck q k0 k1).1, hq.2.1⟩
    · obtain ⟨t1, t2, t3, t4⟩ := hk k k0 k1 hkq
      exact ⟨(ck k k0 k1).1, (ck k k0 k1).2.at (b9 k k0 k1).2.2.2.2.2.2.2.1.2 t1 t2 t3 t4⟩
  · rw [e8] at k1
    rw [e7]
    by_cases hkq : k = q
    · rw [hkq]; exact hq.2.2
    · rw [(hk k k0 k1 hkq).1 43 (by decide) (by decide)]
      exact hD k k0 k1
/-- cells that hold no fixed reference -/
def Sj (a j : Int) : Prop := (5 ≤ a ∧ a ≤ 11) ∨ a = 13 ∨ a = 14 ∨ a = 16 ∨ (19 ≤ a ∧ a ≤ 24) ∨ (26 ≤ a ∧ a ≤ 31) ∨ (a = 4 ∧ 3 ≤ j ∧ j ≤ 5) ∨ (a = 15 ∧ j = 1) ∨ (a = 17 ∧ (j = 2 ∨ j = 3 ∨ j = 5 ∨ j = 6)) ∨ ((a = 18 ∨ a = 25) ∧ 8 ≤ j ∧ j ≤ 12) ∨ (33 ≤ a ∧ a ≤ 65) ∨ (a = 32 ∧ (j ≤ 8 ∨ j = 21 ∨ j = 22 ∨ j = 23 ∨ j = 39 ∨ j = 40)) ∨ (a = 0 ∧ j = 2) ∨ (a = 1 ∧ 2 ≤ j ∧ j ≤ 8) ∨ a = 2 ∨ a = 3 ∨ (66 ≤ a ∧ (a % 2 = 1 ∨ j ≠ 4))
theorem am_layWk3 : am_layL.all (fun q => decide (q.1 < 66) && !(decide ((5 ≤ q.1 ∧ q.1 ≤ 11) ∨ q.1 = 13 ∨ q.1 = 14 ∨ q.1 = 16 ∨ (19 ≤ q.1 ∧ q.1 ≤ 24) ∨ (26 ≤ q.1 ∧ q.1 ≤ 31) ∨ (q.1 = 4 ∧ 3 ≤ q.2.1 ∧ q.2.1 ≤ 5) ∨ (q.1 = 15 ∧ q.2.1 = 1) ∨ (q.1 = 17 ∧ (q.2.1 = 2 ∨ q.2.1 = 3 ∨ q.2.1 = 5 ∨ q.2.1 = 6)) ∨ ((q.1 = 18 ∨ q.1 = 25) ∧ 8 ≤ q.2.1 ∧ q.2.1 ≤ 12) ∨ (33 ≤ q.1 ∧ q.1 ≤ 65) ∨ (q.1 = 32 ∧ (q.2.1 ≤ 8 ∨ q.2.1 = 21 ∨ q.2.1 = 22 ∨ q.2.1 = 23 ∨ q.2.1 = 39 ∨ q.2.1 = 40)) ∨ (q.1 = 0 ∧ q.2.1 = 2) ∨ (q.1 = 1 ∧ 2 ≤ q.2.1 ∧ q.2.1 ≤ 8) ∨ q.1 = 2 ∨ q.1 = 3))) = true := by decide +kernel
theorem Lay_j {S : Int → Int → Prop} {n : Nat} {μ μ1 : am_M} (hl : Lay n μ) (h : Of S μ μ1) (hs : ∀ a j, S a j → Sj a j) : Lay n μ1 := ⟨fun q hq => (h q.1 q.2.1 (fun z => by
  have h1 := List.all_eq_true.mp am_layWk3 q hq
  simp only [Bool.and_eq_true, Bool.not_eq_true', decide_eq_false_iff_not, decide_eq_true_eq] at h1
  have z := hs _ _ z
  unfold Sj at z
  omega)).trans (hl.1 q hq), fun a h1 h2 h3 => (h a 4 (fun z => by have z := hs _ _ z; unfold Sj at z; omega)).trans (hl.2 a h1 h2 h3)⟩

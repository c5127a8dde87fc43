/-! the reference's data as they come -/
def Nb (μ : am_M) (k : Int) : Prop := (0 ≤ μ 34 k ∧ μ 34 k < μ 32 7) ∧ (1 ≤ μ 35 k ∧ μ 35 k ≤ 100) ∧ (1 ≤ μ 36 k ∧ μ 36 k ≤ 20) ∧ (0 ≤ μ 37 k ∧ μ 37 k ≤ 2) ∧ (0 ≤ μ 38 k ∧ μ 38 k ≤ 3) ∧ (0 ≤ μ 39 k ∧ μ 39 k ≤ 4) ∧ (0 ≤ μ 40 k ∧ μ 40 k ≤ 100 * μ 39 k) ∧ (0 ≤ μ 41 k ∧ μ 41 k ≤ 3) ∧ (-1 ≤ μ 42 k ∧ μ 42 k ≤ 400) ∧ True ∧ (∀ c, 0 ≤ c → c < μ 41 k → 1 ≤ μ 44 (3 * k + c) ∧ μ 44 (3 * k + c) < μ 35 k) ∧ (0 < μ 39 k → μ 41 k = 0)
def Bk (μ : am_M) : Prop := (10 ≤ μ 32 2 ∧ μ 32 2 ≤ 400) ∧ (0 ≤ μ 32 3 ∧ μ 32 3 ≤ 20) ∧ (0 ≤ μ 32 4 ∧ μ 32 4 ≤ 1000) ∧ (0 ≤ μ 32 5 ∧ μ 32 5 ≤ 15) ∧ (μ 32 6 = 0 ∨ μ 32 6 = 1) ∧ (0 ≤ μ 32 7 ∧ μ 32 7 ≤ 60) ∧ (0 ≤ μ 32 8 ∧ μ 32 8 ≤ 24) ∧ (∀ l, 0 ≤ l → l < μ 32 7 → 1 ≤ μ 33 l ∧ μ 33 l ≤ 50) ∧ (∀ k, 0 ≤ k → k < μ 32 8 → Nb μ k)
/-- a true or false: 1 or 0 -/
abbrev PB (P : Prop) (n : Nat) (μ : am_M) : Option am_V → Nat → am_M → Prop := PI n (fun x μ' => μ' = μ ∧ ((x = 1 ∧ P) ∨ (x = 0 ∧ ¬ P)))
def am_bit (x y : Int) : Int := (Int32.ofInt (Int32.ofInt x >>> (Int32.ofInt y &&& 31)).toInt &&& Int32.ofInt 1).toInt
theorem am_bit01 (x y : Int) : am_bit x y = 0 ∨ am_bit x y = 1 := by
  unfold am_bit
  generalize Int32.ofInt (Int32.ofInt x >>> (Int32.ofInt y &&& 31)).toInt = z
  have h := pk_and z (m := 1) 1 (by decide)
  rw [show (Int32.ofInt 1 : Int32) = 1 from rfl, h]
  have h2 : z.toBitVec.toNat % 2 ^ 1 < 2 := Nat.mod_lt _ (by decide)
  generalize z.toBitVec.toNat % 2 ^ 1 = u at h2 ⊢
  match u, h2 with
  | 0, _ => exact Or.inl rfl
  | 1, _ => exact Or.inr rfl
/-- a NOTE is SHOWN -/
def md_sh (μ : am_M) (k : Int) : Prop := am_bit (μ 32 5) (μ 38 k) = 1
theorem pX7_isShown (n : Nat) (μ : am_M) (k : Int) (hl : Lay n μ) (h0 : 0 ≤ k) (h1 : k < 24) : AC 107 [(2, 32), (0, k)] n μ (PB (md_sh μ k) n μ) := by
  refine AC.of rfl ?_
  refine aw_aload_n (q := 1) mX7_isShown dX7_isShown_0 rfl rfl ?_
  refine aw_get (t := 0) (ji := 5) (q := 4) mX7_isShown dX7_isShown_1 rfl f7_19 rfl kd_32 rfl rfl ?_
  refine aw_aload_n (q := 5) mX7_isShown dX7_isShown_4 rfl rfl ?_
  refine aw_get (t := 2) (ji := 14) (q := 8) mX7_isShown dX7_isShown_5 rfl f7_38 rfl kd_32 rfl (ly_32_14 hl) ?_
  refine aw_iload_n (q := 9) mX7_isShown dX7_isShown_8 rfl rfl ?_
  refine aw_iald (q := 10) mX7_isShown dX7_isShown_9 rfl kd_38 (by omega) (by omega) rfl ?_
  refine aw_ishr (q := 11) mX7_isShown dX7_isShown_10 rfl rfl ?_
  refine aw_iconst (q := 12) mX7_isShown dX7_isShown_11 rfl rfl ?_
  refine aw_iand (q := 13) mX7_isShown dX7_isShown_12 rfl rfl ?_
  refine aw_iconst (q := 14) mX7_isShown dX7_isShown_13 rfl rfl ?_
  refine aw_icmp_ne (tgt := 21) (q := 17) mX7_isShown dX7_isShown_14 rfl (by decide) (fun c_14 => ?_) (fun c_14 => ?_)
  · refine aw_iconst (q := 22) mX7_isShown dX7_isShown_21 rfl rfl ?_
    refine aw_zret mX7_isShown dX7_isShown_22 (by first | exact Or.inl rfl | exact Or.inr rfl | assumption | omega) ?_
    exact ⟨0, rfl, rfl, rfl, Or.inr ⟨rfl, fun z => c_14 z⟩⟩
  · refine aw_iconst (q := 18) mX7_isShown dX7_isShown_17 rfl rfl ?_
    refine aw_goto (q := 22) mX7_isShown dX7_isShown_18 (by decide) ?_
    refine aw_zret mX7_isShown dX7_isShown_22 (by first | exact Or.inl rfl | exact Or.inr rfl | assumption | omega) ?_
    exact ⟨1, rfl, rfl, rfl, Or.inl ⟨rfl, Classical.not_not.mp c_14⟩⟩
theorem pX7_tallOf (n : Nat) (μ : am_M) (k : Int) (hl : Lay n μ) (h0 : 0 ≤ k) (h1 : k < 24) (hN : Nb μ k) : AC 108 [(2, 32), (0, k)] n μ (PU (0, μ 35 k + μ 40 k) n μ) := by
  obtain ⟨-, n2, n3, n4, n5, n6, n7, n8, n9, -⟩ := hN
  refine AC.of rfl ?_
  refine aw_aload_n (q := 1) mX7_tallOf dX7_tallOf_0 rfl rfl ?_
  refine aw_get (t := 2) (ji := 11) (q := 4) mX7_tallOf dX7_tallOf_1 rfl f7_29 rfl kd_32 rfl (ly_32_11 hl) ?_
  refine aw_iload_n (q := 5) mX7_tallOf dX7_tallOf_4 rfl rfl ?_
  refine aw_iald (q := 6) mX7_tallOf dX7_tallOf_5 rfl kd_35 (by omega) (by omega) rfl ?_
  refine aw_aload_n (q := 7) mX7_tallOf dX7_tallOf_6 rfl rfl ?_
  refine aw_get (t := 2) (ji := 16) (q := 10) mX7_tallOf dX7_tallOf_7 rfl f7_44 rfl kd_32 rfl (ly_32_16 hl) ?_
  refine aw_iload_n (q := 11) mX7_tallOf dX7_tallOf_10 rfl rfl ?_
  refine aw_iald (q := 12) mX7_tallOf dX7_tallOf_11 rfl kd_40 (by omega) (by omega) rfl ?_
  refine aw_iadd (q := 13) mX7_tallOf dX7_tallOf_12 rfl (by omega) (by omega) ?_
  refine aw_iret mX7_tallOf dX7_tallOf_13 ?_
  exact ⟨rfl, rfl, rfl⟩
/-- the row that the reference has at hand -/
def Rv (μ : am_M) : Prop := (0 ≤ μ 32 40 ∧ μ 32 40 ≤ 24) ∧ ∀ i, 0 ≤ i → i < μ 32 40 → 0 ≤ μ 59 i ∧ μ 59 i < μ 32 8
def md_choices (μ : am_M) : Int := if μ 32 40 = 0 then 1 else if 0 ≤ μ 42 (μ 59 (μ 32 40 - 1)) then 1 else 1 + μ 41 (μ 59 (μ 32 40 - 1))
theorem pX7_choices (n : Nat) (μ : am_M) (hl : Lay n μ) (hB : Bk μ) (hR : Rv μ) : AC 113 [(2, 32)] n μ (PU (0, md_choices μ) n μ) := by
  obtain ⟨r1, r2⟩ := hR
  obtain ⟨-, -, -, -, -, -, b7, -, b9⟩ := hB
  unfold md_choices
  refine AC.of rfl ?_
  refine aw_aload_n (q := 1) mX7_choices dX7_choices_0 rfl rfl ?_
  refine aw_get (t := 0) (ji := 40) (q := 4) mX7_choices dX7_choices_1 rfl f7_169 rfl kd_32 rfl rfl ?_
  refine aw_if_ne (tgt := 9) (q := 7) mX7_choices dX7_choices_4 rfl (by decide) (fun c_4 => ?_) (fun c_4 => ?_)
  · have h1 := r2 (μ 32 40 - 1) (by omega) (by omega)
    obtain ⟨-, -, -, -, -, -, -, n8, n9, -⟩ := b9 _ h1.1 h1.2
    refine aw_aload_n (q := 10) mX7_choices dX7_choices_9 rfl rfl ?_
    refine aw_get (t := 2) (ji := 38) (q := 13) mX7_choices dX7_choices_10 rfl f7_102 rfl kd_32 rfl (ly_32_38 hl) ?_
    refine aw_aload_n (q := 14) mX7_choices dX7_choices_13 rfl rfl ?_
    refine aw_get (t := 0) (ji := 40) (q := 17) mX7_choices dX7_choices_14 rfl f7_169 rfl kd_32 rfl rfl ?_
    refine aw_iconst (q := 18) mX7_choices dX7_choices_17 rfl rfl ?_
    refine aw_isub (q := 19) mX7_choices dX7_choices_18 rfl (by omega) (by omega) ?_
    refine aw_iald (q := 20) mX7_choices dX7_choices_19 rfl kd_59 (by omega) (by omega) rfl ?_
    refine aw_istore_n (q := 21) mX7_choices dX7_choices_20 rfl (by decide) rfl ?_
    refine aw_aload_n (q := 22) mX7_choices dX7_choices_21 rfl rfl ?_
    refine aw_get (t := 2) (ji := 18) (q := 25) mX7_choices dX7_choices_22 rfl f7_50 rfl kd_32 rfl (ly_32_18 hl) ?_
    refine aw_iload_n (q := 26) mX7_choices dX7_choices_25 rfl rfl ?_
    refine aw_iald (q := 27) mX7_choices dX7_choices_26 rfl kd_42 (by omega) (by omega) rfl ?_
    refine aw_if_lt (tgt := 34) (q := 30) mX7_choices dX7_choices_27 rfl (by decide) (fun c_27 => ?_) (fun c_27 => ?_)
    · refine aw_iconst (q := 35) mX7_choices dX7_choices_34 rfl rfl ?_
      refine aw_aload_n (q := 36) mX7_choices dX7_choices_35 rfl rfl ?_
      refine aw_get (t := 2) (ji := 17) (q := 39) mX7_choices dX7_choices_36 rfl f7_47 rfl kd_32 rfl (ly_32_17 hl) ?_
      refine aw_iload_n (q := 40) mX7_choices dX7_choices_39 rfl rfl ?_
      refine aw_iald (q := 41) mX7_choices dX7_choices_40 rfl kd_41 (by omega) (by omega) rfl ?_
      refine aw_iadd (q := 42) mX7_choices dX7_choices_41 rfl (by omega) (by omega) ?_
      refine aw_iret mX7_choices dX7_choices_42 ?_
      exact ⟨by rw [if_neg c_4, if_neg (by omega)], rfl, rfl⟩
    · refine aw_iconst (q := 31) mX7_choices dX7_choices_30 rfl rfl ?_
      refine aw_goto (q := 42) mX7_choices dX7_choices_31 (by decide) ?_
      refine aw_iret mX7_choices dX7_choices_42 ?_
      exact ⟨by rw [if_neg c_4, if_pos (by omega)], rfl, rfl⟩
  · refine aw_iconst (q := 8) mX7_choices dX7_choices_7 rfl rfl ?_
    refine aw_iret mX7_choices dX7_choices_8 ?_
    exact ⟨by rw [if_pos (by omega)], rfl, rfl⟩
def md_tall (μ : am_M) (i c : Int) : Int := if c = 0 ∨ i < μ 32 40 - 1 then μ 35 (μ 59 i) + μ 40 (μ 59 i) else if μ 32 2 < μ 35 (μ 59 i) - μ 44 (3 * μ 59 i + c - 1) then -1 else μ 44 (3 * μ 59 i + c - 1)
theorem md_tall_b {μ : am_M} (hB : Bk μ) (hR : Rv μ) {i c : Int} (hi0 : 0 ≤ i) (hi1 : i < μ 32 40) (hc0 : 0 ≤ c) (hc1 : c < md_choices μ) : -1 ≤ md_tall μ i c ∧ md_tall μ i c ≤ 500 := by
  obtain ⟨r1, r2⟩ := hR
  obtain ⟨-, -, -, -, -, -, b7, -, b9⟩ := hB
  have h1 := r2 i hi0 hi1
  obtain ⟨-, n2, n3, n4, n5, n6, n7, n8, n9, n10, n11, -⟩ := b9 _ h1.1 h1.2
  unfold md_tall
  split
  · omega
  · split
    · omega
    · rename_i z _
      unfold md_choices at hc1
      have e : i = μ 32 40 - 1 := by omega
      rw [if_neg (by omega), ← e] at hc1
      have h2 : c - 1 < μ 41 (μ 59 i) := by
        split at hc1 <;> omega
      have := n11 (c - 1) (by omega) h2
      rw [show 3 * μ 59 i + (c - 1) = 3 * μ 59 i + c - 1 by omega] at this
      omega
theorem pX7_tall (n : Nat) (μ : am_M) (i c : Int) (hl : Lay n μ) (hB : Bk μ) (hR : Rv μ) (hi0 : 0 ≤ i) (hi1 : i < μ 32 40) (hc0 : 0 ≤ c) (hc1 : c < md_choices μ) : AC 114 [(2, 32), (0, i), (0, c)] n μ (PU (0, md_tall μ i c) n μ) := by
  have hb := md_tall_b hB hR hi0 hi1 hc0 hc1
  obtain ⟨r1, r2⟩ := hR
  obtain ⟨b1, -, -, -, -, -, b7, -, b9⟩ := hB
  have h1 := r2 i hi0 hi1
  have hN := b9 _ h1.1 h1.2
  obtain ⟨-, n2, n3, n4, n5, n6, n7, n8, n9, n10, n11, -⟩ := id hN
  have hc3 : c ≤ 3 ∨ (c = 0 ∨ i < μ 32 40 - 1) := by
    by_cases z : c = 0 ∨ i < μ 32 40 - 1
    · exact Or.inr z
    · left
      unfold md_choices at hc1
      have e : i = μ 32 40 - 1 := by omega
      rw [if_neg (by omega), ← e] at hc1
      split at hc1 <;> omega
  unfold md_tall at hb ⊢
  refine AC.of rfl ?_
  refine aw_aload_n (q := 1) mX7_tall dX7_tall_0 rfl rfl ?_
  refine aw_get (t := 2) (ji := 38) (q := 4) mX7_tall dX7_tall_1 rfl f7_102 rfl kd_32 rfl (ly_32_38 hl) ?_
  refine aw_iload_n (q := 5) mX7_tall dX7_tall_4 rfl rfl ?_
  refine aw_iald (q := 6) mX7_tall dX7_tall_5 rfl kd_59 (by omega) (by omega) rfl ?_
  refine aw_istore_n (q := 7) mX7_tall dX7_tall_6 rfl (by decide) rfl ?_
  refine aw_iload_n (q := 8) mX7_tall dX7_tall_7 rfl rfl ?_
  refine aw_if_eq (tgt := 21) (q := 11) mX7_tall dX7_tall_8 rfl (by decide) (fun c_8 => ?_) (fun c_8 => ?_)
  · refine aw_aload_n (q := 22) mX7_tall dX7_tall_21 rfl rfl ?_
    refine aw_iload_n (q := 23) mX7_tall dX7_tall_22 rfl rfl ?_
    refine aw_v1 (ci := 7) (q := 26) mX7_tall dX7_tall_23 rfl l7_160 k114_108 rfl kd_32 rfl rfl rfl (pX7_tallOf n μ (μ 59 i) hl (by omega) (by omega) hN) (kpure ?_)
    refine aw_iret mX7_tall dX7_tall_26 ?_
    exact ⟨by rw [if_pos (Or.inl (by omega))], rfl, rfl⟩
  · refine aw_iload_n (q := 12) mX7_tall dX7_tall_11 rfl rfl ?_
    refine aw_aload_n (q := 13) mX7_tall dX7_tall_12 rfl rfl ?_
    refine aw_get (t := 0) (ji := 40) (q := 16) mX7_tall dX7_tall_13 rfl f7_169 rfl kd_32 rfl rfl ?_
    refine aw_iconst (q := 17) mX7_tall dX7_tall_16 rfl rfl ?_
    refine aw_isub (q := 18) mX7_tall dX7_tall_17 rfl (by omega) (by omega) ?_
    refine aw_icmp_ge (tgt := 27) (q := 21) mX7_tall dX7_tall_18 rfl (by decide) (fun c_18 => ?_) (fun c_18 => ?_)
    · have hcut : 1 ≤ μ 44 (3 * μ 59 i + c - 1) ∧ μ 44 (3 * μ 59 i + c - 1) < μ 35 (μ 59 i) := by
        unfold md_choices at hc1
        have e : i = μ 32 40 - 1 := by omega
        rw [if_neg (by omega), ← e] at hc1
        have h2 : c - 1 < μ 41 (μ 59 i) := by
          split at hc1 <;> omega
        have := n11 (c - 1) (by omega) h2
        rw [show 3 * μ 59 i + (c - 1) = 3 * μ 59 i + c - 1 by omega] at this
        exact this
      refine aw_aload_n (q := 28) mX7_tall dX7_tall_27 rfl rfl ?_
      refine aw_get (t := 2) (ji := 20) (q := 31) mX7_tall dX7_tall_28 rfl f7_56 rfl kd_32 rfl (ly_32_20 hl) ?_
      refine aw_iconst (q := 32) mX7_tall dX7_tall_31 rfl rfl ?_
      refine aw_iload_n (q := 33) mX7_tall dX7_tall_32 rfl rfl ?_
      refine aw_imul (q := 34) mX7_tall dX7_tall_33 rfl (by omega) (by omega) ?_
      refine aw_iload_n (q := 35) mX7_tall dX7_tall_34 rfl rfl ?_
      refine aw_iadd (q := 36) mX7_tall dX7_tall_35 rfl (by omega) (by omega) ?_
      refine aw_iconst (q := 37) mX7_tall dX7_tall_36 rfl rfl ?_
      refine aw_isub (q := 38) mX7_tall dX7_tall_37 rfl (by omega) (by omega) ?_
      refine aw_iald (q := 39) mX7_tall dX7_tall_38 rfl kd_44 (by omega) (by omega) rfl ?_
      refine aw_istore (q := 41) mX7_tall dX7_tall_39 rfl (by decide) rfl ?_
      refine aw_aload_n (q := 42) mX7_tall dX7_tall_41 rfl rfl ?_
      refine aw_get (t := 2) (ji := 11) (q := 45) mX7_tall dX7_tall_42 rfl f7_29 rfl kd_32 rfl (ly_32_11 hl) ?_
      refine aw_iload_n (q := 46) mX7_tall dX7_tall_45 rfl rfl ?_
      refine aw_iald (q := 47) mX7_tall dX7_tall_46 rfl kd_35 (by omega) (by omega) rfl ?_
      refine aw_iload (q := 49) mX7_tall dX7_tall_47 rfl rfl ?_
      refine aw_isub (q := 50) mX7_tall dX7_tall_49 rfl (by omega) (by omega) ?_
      refine aw_aload_n (q := 51) mX7_tall dX7_tall_50 rfl rfl ?_
      refine aw_get (t := 0) (ji := 2) (q := 54) mX7_tall dX7_tall_51 rfl f7_7 rfl kd_32 rfl rfl ?_
      refine aw_icmp_le (tgt := 61) (q := 57) mX7_tall dX7_tall_54 rfl (by decide) (fun c_54 => ?_) (fun c_54 => ?_)
      · refine aw_iload (q := 63) mX7_tall dX7_tall_61 rfl rfl ?_
        refine aw_iret mX7_tall dX7_tall_63 ?_
        exact ⟨by rw [if_neg (by omega), if_neg (by omega)], rfl, rfl⟩
      · refine aw_iconst (q := 58) mX7_tall dX7_tall_57 rfl rfl ?_
        refine aw_goto (q := 63) mX7_tall dX7_tall_58 (by decide) ?_
        refine aw_iret mX7_tall dX7_tall_63 ?_
        exact ⟨by rw [if_neg (by omega), if_pos (by omega)], rfl, rfl⟩
    · refine aw_aload_n (q := 22) mX7_tall dX7_tall_21 rfl rfl ?_
      refine aw_iload_n (q := 23) mX7_tall dX7_tall_22 rfl rfl ?_
      refine aw_v1 (ci := 7) (q := 26) mX7_tall dX7_tall_23 rfl l7_160 k114_108 rfl kd_32 rfl rfl rfl (pX7_tallOf n μ (μ 59 i) hl (by omega) (by omega) hN) (kpure ?_)
      refine aw_iret mX7_tall dX7_tall_26 ?_
      exact ⟨by rw [if_pos (Or.inr (by omega))], rfl, rfl⟩

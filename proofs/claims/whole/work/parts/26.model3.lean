def Off (b : Int) (μ μ1 : am_M) : Prop := ∀ a j, a ≠ b → μ1 a j = μ a j
theorem Off.rf {b : Int} {μ : am_M} : Off b μ μ := fun _ _ _ => rfl
theorem Off.set {b : Int} {μ μ1 : am_M} (h : Off b μ μ1) {j x : Int} : Off b μ (am_set μ1 b j x) := fun a i ha => by rw [am_sn (Or.inl ha)]; exact h a i ha
/-- memory alike where the book and its row stand -/
def BE (μ μ1 : am_M) : Prop := (∀ j, 2 ≤ j → j ≤ 8 → μ1 32 j = μ 32 j) ∧ ∀ a j, 33 ≤ a → (a ≤ 42 ∨ a = 44) → μ1 a j = μ a j
theorem Off.be {b : Int} {μ μ1 : am_M} (h : Off b μ μ1) (hb : b < 32 ∨ 44 < b) : BE μ μ1 := ⟨fun j _ _ => h 32 j (by omega), fun a j h1 h2 => h a j (by omega)⟩
theorem Nb.tr {μ μ1 : am_M} {k : Int} (h : BE μ μ1) (hN : Nb μ k) : Nb μ1 k := by
  unfold Nb at hN ⊢
  rw [h.1 7 (by decide) (by decide), h.2 34 k (by decide) (by decide), h.2 35 k (by decide) (by decide), h.2 36 k (by decide) (by decide), h.2 37 k (by decide) (by decide), h.2 38 k (by decide) (by decide), h.2 39 k (by decide) (by decide), h.2 40 k (by decide) (by decide), h.2 41 k (by decide) (by decide), h.2 42 k (by decide) (by decide)]
  obtain ⟨a1, a2, a3, a4, a5, a6, a7, a8, a9, a10, a11, a12⟩ := hN
  refine ⟨a1, a2, a3, a4, a5, a6, a7, a8, a9, a10, fun c h0 h1 => ?_, a12⟩
  rw [h.2 44 _ (by decide) (by decide)]
  exact a11 c h0 h1
theorem Bk.tr {μ μ1 : am_M} (h : BE μ μ1) (hB : Bk μ) : Bk μ1 := by
  unfold Bk at hB ⊢
  rw [h.1 2 (by decide) (by decide), h.1 3 (by decide) (by decide), h.1 4 (by decide) (by decide), h.1 5 (by decide) (by decide), h.1 6 (by decide) (by decide), h.1 7 (by decide) (by decide), h.1 8 (by decide) (by decide)]
  obtain ⟨a1, a2, a3, a4, a5, a6, a7, a8, a9⟩ := hB
  refine ⟨a1, a2, a3, a4, a5, a6, a7, fun l h0 h1 => ?_, fun k h0 h1 => (a9 k h0 h1).tr h⟩
  rw [h.2 33 _ (by decide) (by decide)]
  exact a8 l h0 h1
def RE (μ μ1 : am_M) : Prop := μ1 32 40 = μ 32 40 ∧ ∀ i, μ1 59 i = μ 59 i
theorem Off.re {b : Int} {μ μ1 : am_M} (h : Off b μ μ1) (h1 : b ≠ 32) (h2 : b ≠ 59) : RE μ μ1 := ⟨h 32 40 h1.symm, fun i => h 59 i h2.symm⟩
theorem Rv.tr {μ μ1 : am_M} (hb : BE μ μ1) (h : RE μ μ1) (hR : Rv μ) : Rv μ1 := by
  unfold Rv at hR ⊢
  rw [h.1, hb.1 8 (by decide) (by decide)]
  refine ⟨hR.1, fun i h0 h1 => ?_⟩
  rw [h.2 i]
  exact hR.2 i h0 h1
theorem md_choices_tr {μ μ1 : am_M} (hb : BE μ μ1) (h : RE μ μ1) : md_choices μ1 = md_choices μ := by
  unfold md_choices
  rw [h.1, h.2, hb.2 42 _ (by decide) (by decide), hb.2 41 _ (by decide) (by decide)]
theorem md_tall_tr {μ μ1 : am_M} (hb : BE μ μ1) (h : RE μ μ1) (i c : Int) : md_tall μ1 i c = md_tall μ i c := by
  unfold md_tall
  rw [h.1, h.2, hb.1 2 (by decide) (by decide), hb.2 35 _ (by decide) (by decide), hb.2 40 _ (by decide) (by decide), hb.2 44 _ (by decide) (by decide)]
theorem Lay.off {b : Int} {n : Nat} {μ μ1 : am_M} (hl : Lay n μ) (h : Off b μ μ1) (hb : am_lcA b = true) : Lay n μ1 := by
  unfold am_lcA at hb
  simp only [Bool.and_eq_true, decide_eq_true_eq, List.all_eq_true, Bool.not_eq_true', decide_eq_false_iff_not] at hb
  exact ⟨fun q hq => (h q.1 q.2.1 (hb.2 q hq)).trans (hl.1 q hq), fun a h1 h2 h3 => (h a 4 (by omega)).trans (hl.2 a h1 h2 h3)⟩
/-- the tops of the row's lines are on a page -/
def Lt (μ : am_M) : Prop := ∀ i, 0 ≤ i → i < μ 32 40 → 0 ≤ μ 49 (μ 34 (μ 59 i)) ∧ μ 49 (μ 34 (μ 59 i)) ≤ 400
theorem pX7_own (n : Nat) (μ : am_M) (k t c i : Int) (hl : Lay n μ) (h0 : 0 ≤ k) (h1 : k < 24) (hN : Nb μ k) (h7 : μ 32 7 ≤ 60) (ht0 : 0 ≤ t) (ht1 : t ≤ 400) (hp0 : 0 ≤ μ 49 (μ 34 k)) (hp1 : μ 49 (μ 34 k) ≤ 400) : AC 119 [(2, 32), (0, k), (0, t)] n μ (PU (1, rw_own (c, μ 42 k, μ 36 k, μ 49 (μ 34 k)) t) n μ) := by
  obtain ⟨n1, n2, n3, n4, n5, n6, n7, n8, n9, -⟩ := hN
  have ha : 0 ≤ iso_ab (t - μ 49 (μ 34 k)) ∧ iso_ab (t - μ 49 (μ 34 k)) ≤ 400 := by unfold iso_ab; split <;> omega
  have hm0 := Int.mul_nonneg (show 0 ≤ μ 36 k by omega) ha.1
  have hm1 : μ 36 k * iso_ab (t - μ 49 (μ 34 k)) ≤ 20 * 400 := Int.mul_le_mul n3.2 ha.2 ha.1 (by omega)
  unfold rw_own
  refine AC.of rfl ?_
  refine aw_aload_n (q := 1) mX7_own dX7_own_0 rfl rfl ?_
  refine aw_get (t := 2) (ji := 18) (q := 4) mX7_own dX7_own_1 rfl f7_50 rfl kd_32 rfl (ly_32_18 hl) ?_
  refine aw_iload_n (q := 5) mX7_own dX7_own_4 rfl rfl ?_
  refine aw_iald (q := 6) mX7_own dX7_own_5 rfl kd_42 (by omega) (by omega) rfl ?_
  refine aw_if_lt (tgt := 13) (q := 9) mX7_own dX7_own_6 rfl (by decide) (fun c_6 => ?_) (fun c_6 => ?_)
  · rw [if_neg (by dsimp only; omega)]
    refine aw_aload_n (q := 14) mX7_own dX7_own_13 rfl rfl ?_
    refine aw_get (t := 2) (ji := 12) (q := 17) mX7_own dX7_own_14 rfl f7_32 rfl kd_32 rfl (ly_32_12 hl) ?_
    refine aw_iload_n (q := 18) mX7_own dX7_own_17 rfl rfl ?_
    refine aw_iald (q := 19) mX7_own dX7_own_18 rfl kd_36 (by omega) (by omega) rfl ?_
    refine aw_i2l (q := 20) mX7_own dX7_own_19 rfl ?_
    refine aw_iload_n (q := 21) mX7_own dX7_own_20 rfl rfl ?_
    refine aw_aload_n (q := 22) mX7_own dX7_own_21 rfl rfl ?_
    refine aw_get (t := 2) (ji := 28) (q := 25) mX7_own dX7_own_22 rfl f7_72 rfl kd_32 rfl (ly_32_28 hl) ?_
    refine aw_aload_n (q := 26) mX7_own dX7_own_25 rfl rfl ?_
    refine aw_get (t := 2) (ji := 10) (q := 29) mX7_own dX7_own_26 rfl f7_26 rfl kd_32 rfl (ly_32_10 hl) ?_
    refine aw_iload_n (q := 30) mX7_own dX7_own_29 rfl rfl ?_
    refine aw_iald (q := 31) mX7_own dX7_own_30 rfl kd_34 (by omega) (by omega) rfl ?_
    refine aw_iald (q := 32) mX7_own dX7_own_31 rfl kd_49 (by omega) (by omega) rfl ?_
    refine aw_isub (q := 33) mX7_own dX7_own_32 rfl (by omega) (by omega) ?_
    refine aw_abs (q := 36) mX7_own dX7_own_33 rfl mt7_210 (Nat.le_of_ble_eq_true rfl) (by decide) (by decide) (by omega) (by omega) rfl ?_
    refine aw_i2l (q := 37) mX7_own dX7_own_36 rfl ?_
    refine aw_lmul (q := 38) mX7_own dX7_own_37 rfl (Int.le_trans (by decide) hm0) (Int.lt_of_le_of_lt hm1 (by decide)) ?_
    refine aw_lret mX7_own dX7_own_38 ?_
    exact ⟨rfl, rfl, rfl⟩
  · rw [if_pos (by dsimp only; omega)]
    refine aw_lconst (x := 0) (q := 10) mX7_own dX7_own_9 rfl rfl ?_
    refine aw_goto (q := 38) mX7_own dX7_own_10 (by decide) ?_
    refine aw_lret mX7_own dX7_own_38 ?_
    exact ⟨rfl, rfl, rfl⟩

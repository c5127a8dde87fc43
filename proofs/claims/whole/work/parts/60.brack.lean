/-! the class's Breaks: brackets -/
theorem pX1_firstOf (n : Nat) (μ : am_M) (a p : Int) (hl : Lay n μ) (hk_a : am_kind a = (0, 3)) (p0 : 0 ≤ p) (p1 : p < 84) : AC 17 [(2, 4), (2, a), (0, p)] n μ (PU (0, max (μ a 6) (μ 8 p)) n μ) := by
  refine AC.of rfl ?_
  refine aw_aload_n (q := 1) mX1_firstOf dX1_firstOf_0 rfl rfl ?_
  refine aw_get (t := 0) (ji := 6) (q := 4) mX1_firstOf dX1_firstOf_1 rfl f1_127 rfl hk_a rfl rfl ?_
  refine aw_aload_n (q := 5) mX1_firstOf dX1_firstOf_4 rfl rfl ?_
  refine aw_get (t := 2) (ji := 6) (q := 8) mX1_firstOf dX1_firstOf_5 rfl f1_28 rfl kd_4 rfl (ly_4_6 hl) ?_
  refine aw_iload_n (q := 9) mX1_firstOf dX1_firstOf_8 rfl rfl ?_
  refine aw_iald (q := 10) mX1_firstOf dX1_firstOf_9 rfl kd_8 (by omega) (by omega) rfl ?_
  refine aw_m2 (Or.inl ⟨rfl, rfl, rfl⟩) (q := 13) mX1_firstOf dX1_firstOf_10 rfl mt1_171 (Nat.le_of_ble_eq_true rfl) (by decide) (by decide) ?_
  refine aw_iret mX1_firstOf dX1_firstOf_13 ?_
  exact ⟨rfl, rfl, rfl⟩
theorem pX1_lastOf (n : Nat) (μ : am_M) (a p : Int) (hl : Lay n μ) (hk_a : am_kind a = (0, 3)) (p0 : 0 ≤ p) (p1 : p < 84) (h9 : 0 ≤ μ 9 p ∧ μ 9 p ≤ 60) : AC 18 [(2, 4), (2, a), (0, p)] n μ (PU (0, min (μ a 10) (μ 9 p - 1)) n μ) := by
  refine AC.of rfl ?_
  refine aw_aload_n (q := 1) mX1_lastOf dX1_lastOf_0 rfl rfl ?_
  refine aw_get (t := 0) (ji := 10) (q := 4) mX1_lastOf dX1_lastOf_1 rfl f1_157 rfl hk_a rfl rfl ?_
  refine aw_aload_n (q := 5) mX1_lastOf dX1_lastOf_4 rfl rfl ?_
  refine aw_get (t := 2) (ji := 7) (q := 8) mX1_lastOf dX1_lastOf_5 rfl f1_31 rfl kd_4 rfl (ly_4_7 hl) ?_
  refine aw_iload_n (q := 9) mX1_lastOf dX1_lastOf_8 rfl rfl ?_
  refine aw_iald (q := 10) mX1_lastOf dX1_lastOf_9 rfl kd_9 (by omega) (by omega) rfl ?_
  refine aw_iconst (q := 11) mX1_lastOf dX1_lastOf_10 rfl rfl ?_
  refine aw_isub (q := 12) mX1_lastOf dX1_lastOf_11 rfl (by omega) (by omega) ?_
  refine aw_m2 (Or.inr (Or.inl ⟨rfl, rfl, rfl⟩)) (q := 15) mX1_lastOf dX1_lastOf_12 rfl mt1_177 (Nat.le_of_ble_eq_true rfl) (by decide) (by decide) ?_
  refine aw_iret mX1_lastOf dX1_lastOf_15 ?_
  exact ⟨rfl, rfl, rfl⟩
theorem pX1_hasBracket0 (n : Nat) (μ : am_M) (a p : Int) (hl : Lay n μ) (hk_a : am_kind a = (0, 3)) (p0 : 0 ≤ p) (p1 : p < μ 4 3) (p2 : p < 84) (h9 : 0 ≤ μ 9 p ∧ μ 9 p ≤ 60) : AC 14 [(2, 4), (2, a), (0, p)] n μ (PB (μ a 10 ≠ -1 ∧ max (μ a 6) (μ 8 p) ≤ min (μ a 10) (μ 9 p - 1)) n μ) := by
  refine AC.of rfl ?_
  refine aw_aload_n (q := 1) mX1_hasBracket dX1_hasBracket_0 rfl rfl ?_
  refine aw_iload_n (q := 2) mX1_hasBracket dX1_hasBracket_1 rfl rfl ?_
  refine aw_v1 (ci := 1) (q := 5) mX1_hasBracket dX1_hasBracket_2 rfl l1_138 k14_9 rfl kd_4 rfl rfl rfl (pX1_hasPage n μ p hl) (kint (fun y μ3 hy => ?_))
  obtain ⟨hm3, hy⟩ := hy
  subst hm3
  refine aw_if_eq (tgt := 35) (q := 8) mX1_hasBracket dX1_hasBracket_5 rfl (by decide) (fun c_5 => ?_) (fun c_5 => ?_)
  · exfalso
    rcases hy with ⟨y1, -⟩ | ⟨-, y2⟩
    · omega
    · exact y2 ⟨p0, p1⟩
  · refine aw_aload_n (q := 9) mX1_hasBracket dX1_hasBracket_8 rfl rfl ?_
    refine aw_get (t := 0) (ji := 10) (q := 12) mX1_hasBracket dX1_hasBracket_9 rfl f1_157 rfl hk_a rfl rfl ?_
    refine aw_iconst (q := 13) mX1_hasBracket dX1_hasBracket_12 rfl rfl ?_
    refine aw_icmp_eq (tgt := 35) (q := 16) mX1_hasBracket dX1_hasBracket_13 rfl (by decide) (fun c_13 => ?_) (fun c_13 => ?_)
    · refine aw_iconst (q := 36) mX1_hasBracket dX1_hasBracket_35 rfl rfl ?_
      refine aw_zret mX1_hasBracket dX1_hasBracket_36 (by first | exact Or.inl rfl | exact Or.inr rfl | assumption | omega) ?_
      exact ⟨0, rfl, rfl, rfl, Or.inr ⟨rfl, fun z => z.1 c_13⟩⟩
    · refine aw_aload_n (q := 17) mX1_hasBracket dX1_hasBracket_16 rfl rfl ?_
      refine aw_aload_n (q := 18) mX1_hasBracket dX1_hasBracket_17 rfl rfl ?_
      refine aw_iload_n (q := 19) mX1_hasBracket dX1_hasBracket_18 rfl rfl ?_
      refine aw_v2 (ci := 1) (q := 22) mX1_hasBracket dX1_hasBracket_19 rfl l1_160 k14_17 rfl kd_4 rfl rfl rfl (pX1_firstOf n μ3 a p hl hk_a p0 p2) (kpure ?_)
      refine aw_aload_n (q := 23) mX1_hasBracket dX1_hasBracket_22 rfl rfl ?_
      refine aw_aload_n (q := 24) mX1_hasBracket dX1_hasBracket_23 rfl rfl ?_
      refine aw_iload_n (q := 25) mX1_hasBracket dX1_hasBracket_24 rfl rfl ?_
      refine aw_v2 (ci := 1) (q := 28) mX1_hasBracket dX1_hasBracket_25 rfl l1_164 k14_18 rfl kd_4 rfl rfl rfl (pX1_lastOf n μ3 a p hl hk_a p0 p2 h9) (kpure ?_)
      refine aw_icmp_gt (tgt := 35) (q := 31) mX1_hasBracket dX1_hasBracket_28 rfl (by decide) (fun c_28 => ?_) (fun c_28 => ?_)
      · refine aw_iconst (q := 36) mX1_hasBracket dX1_hasBracket_35 rfl rfl ?_
        refine aw_zret mX1_hasBracket dX1_hasBracket_36 (by first | exact Or.inl rfl | exact Or.inr rfl | assumption | omega) ?_
        exact ⟨0, rfl, rfl, rfl, Or.inr ⟨rfl, fun z => by have := z.2; omega⟩⟩
      · refine aw_iconst (q := 32) mX1_hasBracket dX1_hasBracket_31 rfl rfl ?_
        refine aw_goto (q := 36) mX1_hasBracket dX1_hasBracket_32 (by decide) ?_
        refine aw_zret mX1_hasBracket dX1_hasBracket_36 (by first | exact Or.inl rfl | exact Or.inr rfl | assumption | omega) ?_
        exact ⟨1, rfl, rfl, rfl, Or.inl ⟨rfl, c_13, by omega⟩⟩
/-- class, reference and pages at hand -/
def Kx (n : Nat) (μ m : am_M) : Prop := Lay n μ ∧ Bk μ ∧ Cb n μ ∧ BE μ m ∧ MS m ∧ Cls μ m
theorem Cls.tr {μ μ1 m : am_M} (h : Cls μ m) (h4 : ∀ j, j ≠ 5 → μ1 4 j = μ 4 j) (hc : ∀ a j, 5 ≤ a → a ≤ 16 → μ1 a j = μ a j) (hn : ∀ k j, 0 ≤ k → 11 ≤ j → j ≤ 14 → μ1 (nf k) j = μ (nf k) j) : Cls μ1 m := by
  obtain ⟨l1, l2, l3, l4, l5, l6, l7⟩ := h
  refine ⟨by rw [h4 3 (by decide)]; exact l1, by rw [h4 4 (by decide)]; exact l2, fun p p0 p1 => ?_, fun l l0 l1 => ?_, fun k hk => ?_, l6.to (fun j => hc 16 j (by decide) (by decide)), by rw [hc 15 1 (by decide) (by decide)]; exact l7⟩
  · have := l3 p p0 p1
    unfold Cq at this ⊢
    rw [hc 8 p (by decide) (by decide), hc 9 p (by decide) (by decide), hc 7 p (by decide) (by decide), hc 13 p (by decide) (by decide), hc 14 p (by decide) (by decide), hc 10 p (by decide) (by decide), hc 11 p (by decide) (by decide)]
    exact this
  · rw [hc 6 l (by decide) (by decide), hc 5 l (by decide) (by decide)]
    exact l4 l l0 l1
  · have hk0 := (md_hr_mem hk).1
    rw [hn k 11 hk0 (by decide) (by decide), hn k 12 hk0 (by decide) (by decide), hn k 13 hk0 (by decide) (by decide), hn k 14 hk0 (by decide) (by decide)]
    exact l5 k hk
def Sco (a j : Int) : Prop := 66 ≤ a ∧ a % 2 = 0 ∧ j = 15
theorem Sco_Sk : ∀ a j, Sco a j → Sk a j := fun a j h => by unfold Sco at h; unfold Sk; omega
theorem Kx.tr {n : Nat} {μ μ1 m : am_M} (h : Kx n μ m) (hO : Of Sco μ μ1) : Kx n μ1 m := by
  obtain ⟨h1, h2, h3, h4, h5, h6⟩ := h
  have hBE := hO.kbe Sco_Sk
  exact ⟨h1.ofS hO Sco_Sk, h2.tr hBE, h3.k hO Sco_Sk, hBE.symm.trans h4, h5, h6.tr (fun j _ => hO 4 j (by unfold Sco; omega)) (fun a j _ _ => hO a j (by unfold Sco; omega)) (fun k j _ _ _ => hO _ j (by unfold Sco; omega))⟩
theorem Kx.pg {n : Nat} {μ m : am_M} (K : Kx n μ m) {p : Int} (p0 : 0 ≤ p) (p1 : p < m 32 23) : p < 84 ∧ p < μ 4 3 ∧ μ 8 p = m 45 p ∧ μ 9 p = m 45 p + m 46 p ∧ (0 ≤ m 45 p ∧ 0 ≤ m 46 p ∧ m 45 p + m 46 p ≤ 60 ∧ m 45 p + m 46 p ≤ frP m (m 32 23)) := by
  obtain ⟨h1, h2, h3, h4, h5, h6⟩ := K
  have hBm := h2.tr h4
  have hQ := h5.pages hBm
  obtain ⟨l1, l2, l3, -⟩ := h6
  obtain ⟨q1, q2, -⟩ := l3 p p0 p1
  have hR := h5.1.2.2.1 p p0 p1
  have := hR.2.1
  have b6 := hBm.2.2.2.2.2.1
  have := PgR_end h5.1 p0 p1
  exact ⟨by omega, by omega, q1, q2, by omega⟩
theorem Kx.nt {n : Nat} {μ m : am_M} (K : Kx n μ m) {k : Int} (k0 : 0 ≤ k) (k1 : k < μ 32 8) : Nr n (nf k) ∧ μ (nf k) 6 = m 34 k ∧ μ (nf k) 10 = μ 43 k := by
  obtain ⟨h1, h2, h3, h4, h5, h6⟩ := K
  obtain ⟨-, mm⟩ := h3.2.2.2 k k0 k1
  refine ⟨nf_r h3 k0 k1, ?_, mm.2.2.2.2.2.2.2.2.2.1⟩
  rw [mm.2.2.2.2.2.1, h4.2 34 k (by decide) (by decide)]
theorem Kx.fo {n : Nat} {μ m : am_M} (K : Kx n μ m) {k p : Int} (k0 : 0 ≤ k) (k1 : k < μ 32 8) (p0 : 0 ≤ p) (p1 : p < m 32 23) : AC 17 [(2, 4), (2, nf k), (0, p)] n μ (PU (0, bF m p k) n μ) := by
  obtain ⟨g1, g2, g3, g4, -⟩ := K.pg p0 p1
  obtain ⟨r1, r2, r3⟩ := K.nt k0 k1
  have := pX1_firstOf n μ (nf k) p K.1 r1.k p0 g1
  rw [r2, g3] at this
  exact this
theorem Kx.la {n : Nat} {μ m : am_M} (K : Kx n μ m) {k p : Int} (k0 : 0 ≤ k) (k1 : k < μ 32 8) (p0 : 0 ≤ p) (p1 : p < m 32 23) : AC 18 [(2, 4), (2, nf k), (0, p)] n μ (PU (0, bL μ m p k) n μ) := by
  obtain ⟨g1, g2, g3, g4, g5⟩ := K.pg p0 p1
  obtain ⟨r1, r2, r3⟩ := K.nt k0 k1
  have := pX1_lastOf n μ (nf k) p K.1 r1.k p0 g1 (by rw [g4]; omega)
  rw [r3, g4] at this
  exact this
theorem Kx.hb {n : Nat} {μ m : am_M} (K : Kx n μ m) {k p : Int} (k0 : 0 ≤ k) (k1 : k < μ 32 8) (p0 : 0 ≤ p) (p1 : p < m 32 23) : AC 14 [(2, 4), (2, nf k), (0, p)] n μ (PB (bH μ m p k) n μ) := by
  obtain ⟨g1, g2, g3, g4, g5⟩ := K.pg p0 p1
  obtain ⟨r1, r2, r3⟩ := K.nt k0 k1
  have := pX1_hasBracket0 n μ (nf k) p K.1 r1.k p0 g2 g1 (by rw [g4]; omega)
  rw [r2, r3, g3, g4] at this
  exact this
theorem pX1_bracketBegin (n : Nat) (μ m : am_M) (k p : Int) (K : Kx n μ m) (k0 : 0 ≤ k) (k1 : k < μ 32 8) (p0 : 0 ≤ p) (p1 : p < m 32 23) (hH : bH μ m p k) : AC 15 [(2, 4), (2, nf k), (0, p)] n μ (PU (0, m 49 (bF m p k)) n μ) := by
  obtain ⟨g1, g2, g3, g4, g5⟩ := K.pg p0 p1
  obtain ⟨r1, r2, r3⟩ := K.nt k0 k1
  have hl := K.1
  have hk_r := r1.k
  have hf : 0 ≤ bF m p k ∧ bF m p k < m 45 p + m 46 p := by have := hH.2; unfold bF bL at *; omega
  have et : μ 6 (bF m p k) = m 49 (bF m p k) := (K.2.2.2.2.2.2.2.2.1 (bF m p k) hf.1 (by omega)).1
  have hb := K.hb k0 k1 p0 p1
  have hfo := K.fo k0 k1 p0 p1
  obtain ⟨r, hr⟩ : ∃ r, r = nf k := ⟨_, rfl⟩
  rw [← hr] at hb hfo hk_r ⊢
  refine AC.of rfl ?_
  refine aw_aload_n (q := 1) mX1_bracketBegin dX1_bracketBegin_0 rfl rfl ?_
  refine aw_aload_n (q := 2) mX1_bracketBegin dX1_bracketBegin_1 rfl rfl ?_
  refine aw_iload_n (q := 3) mX1_bracketBegin dX1_bracketBegin_2 rfl rfl ?_
  refine aw_v2 (ci := 1) (q := 6) mX1_bracketBegin dX1_bracketBegin_3 rfl l1_167 k15_14 rfl kd_4 rfl rfl rfl (hb) (kint (fun y μ3 hy => ?_))
  obtain ⟨hm3, hy⟩ := hy
  subst hm3
  refine aw_if_eq (tgt := 23) (q := 9) mX1_bracketBegin dX1_bracketBegin_6 rfl (by decide) (fun c_6 => ?_) (fun c_6 => ?_)
  · exfalso
    rcases hy with ⟨y1, -⟩ | ⟨-, y2⟩
    · omega
    · exact y2 hH
  · refine aw_aload_n (q := 10) mX1_bracketBegin dX1_bracketBegin_9 rfl rfl ?_
    refine aw_get (t := 2) (ji := 1) (q := 13) mX1_bracketBegin dX1_bracketBegin_10 rfl f1_15 rfl kd_4 rfl (ly_4_1 hl) ?_
    refine aw_aload_n (q := 14) mX1_bracketBegin dX1_bracketBegin_13 rfl rfl ?_
    refine aw_aload_n (q := 15) mX1_bracketBegin dX1_bracketBegin_14 rfl rfl ?_
    refine aw_iload_n (q := 16) mX1_bracketBegin dX1_bracketBegin_15 rfl rfl ?_
    refine aw_v2 (ci := 1) (q := 19) mX1_bracketBegin dX1_bracketBegin_16 rfl l1_160 k15_17 rfl kd_4 rfl rfl rfl (hfo) (kpure ?_)
    refine aw_iald (q := 20) mX1_bracketBegin dX1_bracketBegin_19 rfl kd_6 (by omega) (by omega) et ?_
    refine aw_goto (q := 24) mX1_bracketBegin dX1_bracketBegin_20 (by decide) ?_
    refine aw_iret mX1_bracketBegin dX1_bracketBegin_24 ?_
    exact ⟨rfl, rfl, rfl⟩
theorem pX1_bracketEnd (n : Nat) (μ m : am_M) (k p : Int) (K : Kx n μ m) (k0 : 0 ≤ k) (k1 : k < μ 32 8) (p0 : 0 ≤ p) (p1 : p < m 32 23) (hH : bH μ m p k) (htop : 0 ≤ m 49 (bL μ m p k) ∧ m 49 (bL μ m p k) ≤ 400) : AC 16 [(2, 4), (2, nf k), (0, p)] n μ (PU (0, m 49 (bL μ m p k) + m 33 (bL μ m p k)) n μ) := by
  obtain ⟨g1, g2, g3, g4, g5⟩ := K.pg p0 p1
  obtain ⟨r1, r2, r3⟩ := K.nt k0 k1
  have hl := K.1
  have hk_r := r1.k
  obtain ⟨-, hB, hC, hbe, hM, hCl⟩ := id K
  have hBm := hB.tr hbe
  have e7 : m 32 7 = μ 32 7 := hbe.1 7 (by decide) (by decide)
  have hfl := (hM.1.2.2.2 (m 32 23) (by have := hM.pages hBm; omega) (Int.le_refl _)).2.2.2.2
  have n34 := (hB.2.2.2.2.2.2.2.2 k k0 k1).1
  have e34 : m 34 k = μ 34 k := hbe.2 34 k (by decide) (by decide)
  have hf : 0 ≤ bL μ m p k ∧ bL μ m p k < m 45 p + m 46 p := by have := hH.2; unfold bF bL at *; omega
  have et : μ 6 (bL μ m p k) = m 49 (bL μ m p k) := (hCl.2.2.2.1 (bL μ m p k) hf.1 (by omega)).1
  have eh : μ 2 (bL μ m p k) = m 33 (bL μ m p k) := by rw [hC.2.2.1 _ hf.1 (by omega), hbe.2 33 _ (by decide) (by decide)]
  have hhb := hBm.2.2.2.2.2.2.2.1 (bL μ m p k) hf.1 (by omega)
  have hb := K.hb k0 k1 p0 p1
  have hla := K.la k0 k1 p0 p1
  obtain ⟨r, hr⟩ : ∃ r, r = nf k := ⟨_, rfl⟩
  rw [← hr] at hb hla hk_r ⊢
  refine AC.of rfl ?_
  refine aw_aload_n (q := 1) mX1_bracketEnd dX1_bracketEnd_0 rfl rfl ?_
  refine aw_aload_n (q := 2) mX1_bracketEnd dX1_bracketEnd_1 rfl rfl ?_
  refine aw_iload_n (q := 3) mX1_bracketEnd dX1_bracketEnd_2 rfl rfl ?_
  refine aw_v2 (ci := 1) (q := 6) mX1_bracketEnd dX1_bracketEnd_3 rfl l1_167 k16_14 rfl kd_4 rfl rfl rfl (hb) (kint (fun y μ3 hy => ?_))
  obtain ⟨hm3, hy⟩ := hy
  subst hm3
  refine aw_if_ne (tgt := 11) (q := 9) mX1_bracketEnd dX1_bracketEnd_6 rfl (by decide) (fun c_6 => ?_) (fun c_6 => ?_)
  · refine aw_aload_n (q := 12) mX1_bracketEnd dX1_bracketEnd_11 rfl rfl ?_
    refine aw_aload_n (q := 13) mX1_bracketEnd dX1_bracketEnd_12 rfl rfl ?_
    refine aw_iload_n (q := 14) mX1_bracketEnd dX1_bracketEnd_13 rfl rfl ?_
    refine aw_v2 (ci := 1) (q := 17) mX1_bracketEnd dX1_bracketEnd_14 rfl l1_164 k16_18 rfl kd_4 rfl rfl rfl (hla) (kpure ?_)
    refine aw_istore_n (q := 18) mX1_bracketEnd dX1_bracketEnd_17 rfl (by decide) rfl ?_
    refine aw_aload_n (q := 19) mX1_bracketEnd dX1_bracketEnd_18 rfl rfl ?_
    refine aw_get (t := 2) (ji := 1) (q := 22) mX1_bracketEnd dX1_bracketEnd_19 rfl f1_15 rfl kd_4 rfl (ly_4_1 hl) ?_
    refine aw_iload_n (q := 23) mX1_bracketEnd dX1_bracketEnd_22 rfl rfl ?_
    refine aw_iald (q := 24) mX1_bracketEnd dX1_bracketEnd_23 rfl kd_6 (by omega) (by omega) et ?_
    refine aw_aload_n (q := 25) mX1_bracketEnd dX1_bracketEnd_24 rfl rfl ?_
    refine aw_get (t := 2) (ji := 11) (q := 28) mX1_bracketEnd dX1_bracketEnd_25 rfl f1_52 rfl kd_4 rfl (ly_4_11 hl) ?_
    refine aw_get (t := 2) (ji := 0) (q := 31) mX1_bracketEnd dX1_bracketEnd_28 rfl f1_96 rfl kd_1 rfl (ly_1_0 hl) ?_
    refine aw_iload_n (q := 32) mX1_bracketEnd dX1_bracketEnd_31 rfl rfl ?_
    refine aw_iald (q := 33) mX1_bracketEnd dX1_bracketEnd_32 rfl kd_2 (by omega) (by omega) eh ?_
    refine aw_iadd (q := 34) mX1_bracketEnd dX1_bracketEnd_33 rfl (by omega) (by omega) ?_
    refine aw_iret mX1_bracketEnd dX1_bracketEnd_34 ?_
    exact ⟨rfl, rfl, rfl⟩
  · exfalso
    rcases hy with ⟨y1, -⟩ | ⟨-, y2⟩
    · exact c_6 (by omega)
    · exact y2 hH
theorem pX1_leastFree (n : Nat) (μ : am_M) (t : Int) : AC 21 [(0, t)] n μ (PI n (fun x μ' => μ' = μ ∧ 0 ≤ x ∧ x ≤ 24 ∧ (∀ c, 0 ≤ c → c < x → am_bit t c = 1) ∧ (x < 24 → ¬ am_bit t x = 1))) := by
  have F : ∀ (d : Nat) (x : Int), 0 ≤ x → x + d = 24 → (∀ c, 0 ≤ c → c < x → am_bit t c = 1) → AW none 21 2 [(0, t), (0, x)] [] n μ (PI n (fun x μ' => μ' = μ ∧ 0 ≤ x ∧ x ≤ 24 ∧ (∀ c, 0 ≤ c → c < x → am_bit t c = 1) ∧ (x < 24 → ¬ am_bit t x = 1))) := by
    intro d
    induction d with
    | zero =>
      intro x x0 x1 hx
      refine aw_iload_n (q := 3) mX1_leastFree dX1_leastFree_2 rfl rfl ?_
      refine aw_bipush (q := 5) mX1_leastFree dX1_leastFree_3 rfl rfl ?_
      refine aw_icmp_ge (tgt := 22) (q := 8) mX1_leastFree dX1_leastFree_5 rfl (by decide) (fun c_5 => ?_) (fun c_5 => ?_)
      · refine aw_iload_n (q := 23) mX1_leastFree dX1_leastFree_22 rfl rfl ?_
        refine aw_iret mX1_leastFree dX1_leastFree_23 ?_
        exact ⟨x, rfl, rfl, rfl, x0, by omega, hx, fun z => by omega⟩
      · exact absurd c_5 (by omega)
    | succ d ih =>
      intro x x0 x1 hx
      refine aw_iload_n (q := 3) mX1_leastFree dX1_leastFree_2 rfl rfl ?_
      refine aw_bipush (q := 5) mX1_leastFree dX1_leastFree_3 rfl rfl ?_
      refine aw_icmp_ge (tgt := 22) (q := 8) mX1_leastFree dX1_leastFree_5 rfl (by decide) (fun c_5 => ?_) (fun c_5 => ?_)
      · exact absurd c_5 (by omega)
      · refine aw_iload_n (q := 9) mX1_leastFree dX1_leastFree_8 rfl rfl ?_
        refine aw_iload_n (q := 10) mX1_leastFree dX1_leastFree_9 rfl rfl ?_
        refine aw_ishr (q := 11) mX1_leastFree dX1_leastFree_10 rfl rfl ?_
        refine aw_iconst (q := 12) mX1_leastFree dX1_leastFree_11 rfl rfl ?_
        refine aw_iand (q := 13) mX1_leastFree dX1_leastFree_12 rfl rfl ?_
        refine aw_if_eq (tgt := 22) (q := 16) mX1_leastFree dX1_leastFree_13 rfl (by decide) (fun c_13 => ?_) (fun c_13 => ?_)
        · refine aw_iload_n (q := 23) mX1_leastFree dX1_leastFree_22 rfl rfl ?_
          refine aw_iret mX1_leastFree dX1_leastFree_23 ?_
          have h0 : am_bit t x = 0 := c_13
          exact ⟨x, rfl, rfl, rfl, x0, by omega, hx, fun _ => by rw [h0]; decide⟩
        · have h0 : ¬ am_bit t x = 0 := c_13
          have h1 : am_bit t x = 1 := (am_bit01 t x).resolve_left h0
          refine aw_iinc (q := 19) mX1_leastFree dX1_leastFree_16 rfl rfl (by decide) (by omega) (by omega) rfl ?_
          refine aw_goto (q := 2) mX1_leastFree dX1_leastFree_19 (by decide) ?_
          refine ih (x + 1) (by omega) (by omega) (fun c c0 c1 => ?_)
          by_cases hc : c = x
          · rw [hc]; exact h1
          · exact hx c c0 (by omega)
  refine AC.of rfl ?_
  refine aw_iconst (q := 1) mX1_leastFree dX1_leastFree_0 rfl rfl ?_
  refine aw_istore_n (q := 2) mX1_leastFree dX1_leastFree_1 rfl (by decide) rfl ?_
  exact F 24 0 (by decide) (by decide) (fun c c0 c1 => by omega)
/-- with BREAKS every SET NOTE stands -/
theorem Kx.all {n : Nat} {μ m : am_M} (K : Kx n μ m) (h22 : m 32 22 = 1) : Ar μ 16 ((md_hr m 0 (m 32 7).toNat).map nf) ∧ μ 15 1 = ((md_hr m 0 (m 32 7).toNat).length : Int) ∧ (md_hr m 0 (m 32 7).toNat).length ≤ 24 ∧ ∀ k ∈ md_hr m 0 (m 32 7).toNat, (0 ≤ k ∧ k < μ 32 8) ∧ μ (nf k) 12 = m 51 k := by
  obtain ⟨h1, h2, h3, h4, h5, h6⟩ := K
  have hBm := h2.tr h4
  obtain ⟨l1, l2, l3, l4, l5, l6, l7⟩ := h6
  have hfr : frP m (m 32 23) = m 32 7 := by
    rcases h5.2.2.2 with h | h
    · exact h.2
    · omega
  rw [hfr] at l5
  have hle : (md_hr m 0 (m 32 7).toNat).length ≤ 24 := Nat.le_trans md_hr_le (by have := hBm.2.2.2.2.2.2.1; omega)
  refine ⟨l6, l7, hle, fun k hk => ⟨?_, (l5 k hk).2.1⟩⟩
  have := md_hr_mem hk
  have e8 := h4.1 8 (by decide) (by decide)
  omega
theorem pX1_takenAhead (n : Nat) (μ m : am_M) (p q : Int) (pre suf : List Int) (K : Kx n μ m) (h22 : m 32 22 = 1) (p0 : 0 ≤ p) (p1 : p < m 32 23) (hO : md_hr m 0 (m 32 7).toNat = pre ++ q :: suf) (hcol : ∀ k ∈ pre, bH μ m p k → m 51 k = m 51 q → 0 ≤ μ (nf k) 15 ∧ μ (nf k) 15 < 24) : AC 20 [(2, 4), (0, (pre.length : Int)), (0, p)] n μ (PI n (fun t μ' => μ' = μ ∧ ∀ c, 0 ≤ c → c < 24 → (am_bit t c = 1 ↔ ∃ k, bM μ m p q k ∧ μ (nf k) 15 = c))) := by
  obtain ⟨a1, a2, a3, a4⟩ := K.all h22
  have hl := K.1
  rw [hO] at a1 a2 a3
  have hlen : (pre ++ q :: suf).length = pre.length + suf.length + 1 := by simp; omega
  obtain ⟨⟨q0, q1⟩, q2⟩ := a4 q (by rw [hO]; simp)
  obtain ⟨r1, r2, r3⟩ := K.nt q0 q1
  have hfo := K.fo q0 q1 p0 p1
  obtain ⟨rq, hrq⟩ : ∃ r, r = nf q := ⟨_, rfl⟩
  rw [← hrq] at r1 q2 hfo
  have hk_rq := r1.k
  have erq : μ 16 (pre.length : Int) = rq := by
    rw [List.map_append, List.map_cons] at a1
    have := Ar.mid a1
    rw [List.length_map] at this
    rw [hrq]; exact this
  have F : ∀ (s2 s1 : List Int) (t : Int) (v6 v7 : am_V), pre = s1 ++ s2 → (∀ c, 0 ≤ c → c < 24 → (am_bit t c = 1 ↔ ∃ k ∈ s1, (bH μ m p k ∧ m 51 k = m 51 q ∧ bF m p q ≤ bL μ m p k) ∧ μ (nf k) 15 = c)) → AW none 20 16 [(2, 4), (0, (pre.length : Int)), (0, p), (2, rq), (0, t), (0, (s1.length : Int)), v6, v7] [] n μ (PI n (fun t μ' => μ' = μ ∧ ∀ c, 0 ≤ c → c < 24 → (am_bit t c = 1 ↔ ∃ k, bM μ m p q k ∧ μ (nf k) 15 = c))) := by
    intro s2
    induction s2 with
    | nil =>
      intro s1 t v6 v7 hps ht
      have hs1 : s1 = pre := by rw [hps]; simp
      refine aw_iload (q := 18) mX1_takenAhead dX1_takenAhead_16 rfl rfl ?_
      refine aw_iload_n (q := 19) mX1_takenAhead dX1_takenAhead_18 rfl rfl ?_
      refine aw_icmp_ge (tgt := 102) (q := 22) mX1_takenAhead dX1_takenAhead_19 rfl (by decide) (fun c_19 => ?_) (fun c_19 => ?_)
      · refine aw_iload (q := 104) mX1_takenAhead dX1_takenAhead_102 rfl rfl ?_
        refine aw_iret mX1_takenAhead dX1_takenAhead_104 ?_
        refine ⟨t, rfl, rfl, rfl, fun c c0 c1 => ?_⟩
        rw [ht c c0 c1, hs1]
        constructor
        · rintro ⟨k, k1, ⟨k2, k3, k4⟩, k5⟩
          have hkm : k ∈ md_hr m 0 (m 32 7).toNat := by rw [hO]; exact List.mem_append_left _ k1
          exact ⟨k, ⟨hkm, (ah_pre hO hkm).mp k1, k2, k3, k4⟩, k5⟩
        · rintro ⟨k, ⟨k1, k2, k3, k4, k5⟩, k6⟩
          exact ⟨k, (ah_pre hO k1).mpr k2, ⟨k3, k4, k5⟩, k6⟩
      · exact absurd c_19 (by rw [hs1]; omega)
    | cons k s2 ih =>
      intro s1 t v6 v7 hps ht
      have hpl : pre.length = s1.length + s2.length + 1 := by rw [hps]; simp; omega
      have hkp : k ∈ pre := by rw [hps]; simp
      obtain ⟨⟨k0, k1⟩, k2⟩ := a4 k (by rw [hO]; exact List.mem_append_left _ hkp)
      obtain ⟨y1, y2, y3⟩ := K.nt k0 k1
      have hbk := K.hb k0 k1 p0 p1
      have hla := K.la k0 k1 p0 p1
      have hck := hcol k hkp
      obtain ⟨r, hr⟩ : ∃ r, r = nf k := ⟨_, rfl⟩
      rw [← hr] at y1 k2 hbk hla hck
      have hk_r := y1.k
      have er : μ 16 (s1.length : Int) = r := by
        have h9 := a1
        rw [hps, show s1 ++ k :: s2 ++ q :: suf = s1 ++ k :: (s2 ++ q :: suf) by simp, List.map_append, List.map_cons] at h9
        have := Ar.mid h9
        rw [List.length_map] at this
        rw [hr]; exact this
      -- the next one
      have N : ∀ (t' : Int) (w6 w7 : am_V), (∀ c, 0 ≤ c → c < 24 → (am_bit t' c = 1 ↔ ∃ k' ∈ s1 ++ [k], (bH μ m p k' ∧ m 51 k' = m 51 q ∧ bF m p q ≤ bL μ m p k') ∧ μ (nf k') 15 = c)) → AW none 20 96 [(2, 4), (0, (pre.length : Int)), (0, p), (2, rq), (0, t'), (0, (s1.length : Int)), w6, w7] [] n μ (PI n (fun t μ' => μ' = μ ∧ ∀ c, 0 ≤ c → c < 24 → (am_bit t c = 1 ↔ ∃ k, bM μ m p q k ∧ μ (nf k) 15 = c))) := by
        intro t' w6 w7 ht'
        have h9 := ih (s1 ++ [k]) t' w6 w7 (by rw [hps]; simp) ht'
        refine aw_iinc (q := 99) mX1_takenAhead dX1_takenAhead_96 rfl rfl (by decide) (by omega) (by omega) rfl ?_
        refine aw_goto (q := 16) mX1_takenAhead dX1_takenAhead_99 (by decide) ?_
        rw [List.length_append] at h9
        exact h9
      have same : ¬ (bH μ m p k ∧ m 51 k = m 51 q ∧ bF m p q ≤ bL μ m p k) → ∀ c, 0 ≤ c → c < 24 → (am_bit t c = 1 ↔ ∃ k' ∈ s1 ++ [k], (bH μ m p k' ∧ m 51 k' = m 51 q ∧ bF m p q ≤ bL μ m p k') ∧ μ (nf k') 15 = c) := fun hn c c0 c1 => by
        rw [ht c c0 c1]
        constructor
        · rintro ⟨k', z1, z2, z3⟩; exact ⟨k', List.mem_append_left _ z1, z2, z3⟩
        · rintro ⟨k', z1, z2, z3⟩
          rcases List.mem_append.mp z1 with z1 | z1
          · exact ⟨k', z1, z2, z3⟩
          · have : k' = k := by simpa using z1
            rw [this] at z2
            exact absurd z2 hn
      -- not beside
      have NB : ¬ (m 51 k = m 51 q ∧ bH μ m p k) → AW none 20 60 [(2, 4), (0, (pre.length : Int)), (0, p), (2, rq), (0, t), (0, (s1.length : Int)), (2, r), v7] [] n μ (PI n (fun t μ' => μ' = μ ∧ ∀ c, 0 ≤ c → c < 24 → (am_bit t c = 1 ↔ ∃ k, bM μ m p q k ∧ μ (nf k) 15 = c))) := by
        intro hn
        refine aw_iconst (q := 61) mX1_takenAhead dX1_takenAhead_60 rfl rfl ?_
        refine aw_istore (q := 63) mX1_takenAhead dX1_takenAhead_61 rfl (by decide) rfl ?_
        refine aw_iload (q := 65) mX1_takenAhead dX1_takenAhead_63 rfl rfl ?_
        refine aw_if_eq (tgt := 96) (q := 68) mX1_takenAhead dX1_takenAhead_65 rfl (by decide) (fun c_65 => ?_) (fun c_65 => ?_)
        · exact N t _ _ (same (fun z => hn ⟨z.2.1, z.1⟩))
        · exact absurd rfl c_65
      refine aw_iload (q := 18) mX1_takenAhead dX1_takenAhead_16 rfl rfl ?_
      refine aw_iload_n (q := 19) mX1_takenAhead dX1_takenAhead_18 rfl rfl ?_
      refine aw_icmp_ge (tgt := 102) (q := 22) mX1_takenAhead dX1_takenAhead_19 rfl (by decide) (fun c_19 => ?_) (fun c_19 => ?_)
      · exact absurd c_19 (by omega)
      · refine aw_aload_n (q := 23) mX1_takenAhead dX1_takenAhead_22 rfl rfl ?_
        refine aw_get (t := 2) (ji := 12) (q := 26) mX1_takenAhead dX1_takenAhead_23 rfl f1_48 rfl kd_4 rfl (ly_4_12 hl) ?_
        refine aw_get (t := 2) (ji := 0) (q := 29) mX1_takenAhead dX1_takenAhead_26 rfl f1_123 rfl kd_15 rfl (ly_15_0 hl) ?_
        refine aw_iload (q := 31) mX1_takenAhead dX1_takenAhead_29 rfl rfl ?_
        refine aw_aald (q := 32) mX1_takenAhead dX1_takenAhead_31 rfl kd_16 (by omega) (by omega) er ?_
        refine aw_astore (q := 34) mX1_takenAhead dX1_takenAhead_32 rfl (by decide) rfl ?_
        refine aw_aload (q := 36) mX1_takenAhead dX1_takenAhead_34 rfl rfl ?_
        refine aw_get (t := 0) (ji := 12) (q := 39) mX1_takenAhead dX1_takenAhead_36 rfl f1_148 rfl hk_r rfl k2 ?_
        refine aw_aload_n (q := 40) mX1_takenAhead dX1_takenAhead_39 rfl rfl ?_
        refine aw_get (t := 0) (ji := 12) (q := 43) mX1_takenAhead dX1_takenAhead_40 rfl f1_148 rfl hk_rq rfl q2 ?_
        refine aw_icmp_ne (tgt := 60) (q := 46) mX1_takenAhead dX1_takenAhead_43 rfl (by decide) (fun c_43 => ?_) (fun c_43 => ?_)
        · exact NB (fun z => c_43 z.1)
        · have hside : m 51 k = m 51 q := Decidable.not_not.mp c_43
          refine aw_aload_n (q := 47) mX1_takenAhead dX1_takenAhead_46 rfl rfl ?_
          refine aw_aload (q := 49) mX1_takenAhead dX1_takenAhead_47 rfl rfl ?_
          refine aw_iload_n (q := 50) mX1_takenAhead dX1_takenAhead_49 rfl rfl ?_
          refine aw_v2 (ci := 1) (q := 53) mX1_takenAhead dX1_takenAhead_50 rfl l1_167 k20_14 rfl kd_4 rfl rfl rfl (hbk) (kint (fun y μ3 hy => ?_))
          obtain ⟨hm3, hy⟩ := hy
          subst hm3
          refine aw_if_eq (tgt := 60) (q := 56) mX1_takenAhead dX1_takenAhead_53 rfl (by decide) (fun c_53 => ?_) (fun c_53 => ?_)
          · refine NB (fun z => ?_)
            rcases hy with ⟨y1, -⟩ | ⟨-, y2⟩
            · omega
            · exact y2 z.2
          · have hbh : bH μ3 m p k := by
              rcases hy with ⟨-, y2⟩ | ⟨y1, -⟩
              · exact y2
              · exact absurd y1 c_53
            have hcb := hck hbh hside
            refine aw_iconst (q := 57) mX1_takenAhead dX1_takenAhead_56 rfl rfl ?_
            refine aw_goto (q := 61) mX1_takenAhead dX1_takenAhead_57 (by decide) ?_
            refine aw_istore (q := 63) mX1_takenAhead dX1_takenAhead_61 rfl (by decide) rfl ?_
            refine aw_iload (q := 65) mX1_takenAhead dX1_takenAhead_63 rfl rfl ?_
            refine aw_if_eq (tgt := 96) (q := 68) mX1_takenAhead dX1_takenAhead_65 rfl (by decide) (fun c_65 => ?_) (fun c_65 => ?_)
            · exact absurd c_65 (by decide)
            · refine aw_aload_n (q := 69) mX1_takenAhead dX1_takenAhead_68 rfl rfl ?_
              refine aw_aload_n (q := 70) mX1_takenAhead dX1_takenAhead_69 rfl rfl ?_
              refine aw_iload_n (q := 71) mX1_takenAhead dX1_takenAhead_70 rfl rfl ?_
              refine aw_v2 (ci := 1) (q := 74) mX1_takenAhead dX1_takenAhead_71 rfl l1_160 k20_17 rfl kd_4 rfl rfl rfl (hfo) (kpure ?_)
              refine aw_aload_n (q := 75) mX1_takenAhead dX1_takenAhead_74 rfl rfl ?_
              refine aw_aload (q := 77) mX1_takenAhead dX1_takenAhead_75 rfl rfl ?_
              refine aw_iload_n (q := 78) mX1_takenAhead dX1_takenAhead_77 rfl rfl ?_
              refine aw_v2 (ci := 1) (q := 81) mX1_takenAhead dX1_takenAhead_78 rfl l1_164 k20_18 rfl kd_4 rfl rfl rfl (hla) (kpure ?_)
              refine aw_icmp_gt (tgt := 96) (q := 84) mX1_takenAhead dX1_takenAhead_81 rfl (by decide) (fun c_81 => ?_) (fun c_81 => ?_)
              · exact N t _ _ (same (fun z => by have := z.2.2; omega))
              · refine aw_iload (q := 86) mX1_takenAhead dX1_takenAhead_84 rfl rfl ?_
                refine aw_iconst (q := 87) mX1_takenAhead dX1_takenAhead_86 rfl rfl ?_
                refine aw_aload (q := 89) mX1_takenAhead dX1_takenAhead_87 rfl rfl ?_
                refine aw_get (t := 0) (ji := 15) (q := 92) mX1_takenAhead dX1_takenAhead_89 rfl f1_187 rfl hk_r rfl rfl ?_
                refine aw_ishl (q := 93) mX1_takenAhead dX1_takenAhead_92 rfl rfl ?_
                refine aw_ior (q := 94) mX1_takenAhead dX1_takenAhead_93 rfl rfl ?_
                refine aw_istore (q := 96) mX1_takenAhead dX1_takenAhead_94 rfl (by decide) rfl ?_
                refine N (am_or1 t (μ3 r 15)) _ _ (fun c c0 c1 => ?_)
                rw [am_or1_bit hcb.1 (by omega) c0 (by omega), ht c c0 c1]
                constructor
                · rintro (⟨k', z1, z2, z3⟩ | z)
                  · exact ⟨k', List.mem_append_left _ z1, z2, z3⟩
                  · exact ⟨k, by simp, ⟨hbh, hside, by omega⟩, by rw [z, hr]⟩
                · rintro ⟨k', z1, z2, z3⟩
                  rcases List.mem_append.mp z1 with z1 | z1
                  · exact Or.inl ⟨k', z1, z2, z3⟩
                  · have : k' = k := by simpa using z1
                    right
                    rw [← z3, this, hr]
  refine AC.of rfl ?_
  refine aw_aload_n (q := 1) mX1_takenAhead dX1_takenAhead_0 rfl rfl ?_
  refine aw_get (t := 2) (ji := 12) (q := 4) mX1_takenAhead dX1_takenAhead_1 rfl f1_48 rfl kd_4 rfl (ly_4_12 hl) ?_
  refine aw_get (t := 2) (ji := 0) (q := 7) mX1_takenAhead dX1_takenAhead_4 rfl f1_123 rfl kd_15 rfl (ly_15_0 hl) ?_
  refine aw_iload_n (q := 8) mX1_takenAhead dX1_takenAhead_7 rfl rfl ?_
  refine aw_aald (q := 9) mX1_takenAhead dX1_takenAhead_8 rfl kd_16 (by omega) (by omega) erq ?_
  refine aw_astore_n (q := 10) mX1_takenAhead dX1_takenAhead_9 rfl (by decide) rfl ?_
  refine aw_iconst (q := 11) mX1_takenAhead dX1_takenAhead_10 rfl rfl ?_
  refine aw_istore (q := 13) mX1_takenAhead dX1_takenAhead_11 rfl (by decide) rfl ?_
  refine aw_iconst (q := 14) mX1_takenAhead dX1_takenAhead_13 rfl rfl ?_
  refine aw_istore (q := 16) mX1_takenAhead dX1_takenAhead_14 rfl (by decide) rfl ?_
  exact F pre [] 0 _ _ rfl (fun c c0 c1 => ⟨fun z => absurd z (am_bit_0 c0 (by omega)), fun ⟨k, z, _⟩ => by simp at z⟩)
theorem IsC.cg {μ m : am_M} {p n : Int} {c1 c2 : Int → Int} (h : IsC μ m p c1 n) (hn : c2 n = c1 n) (hk : ∀ k, bM μ m p n k → c2 k = c1 k) : IsC μ m p c2 n := by
  obtain ⟨a1, a2, a3⟩ := h
  refine ⟨by rw [hn]; exact a1, fun k hkk => by rw [hn, hk k hkk]; exact a2 k hkk, fun c c0 c1 => ?_⟩
  obtain ⟨k, k1, k2⟩ := a3 c c0 (by rw [hn] at c1; exact c1)
  exact ⟨k, k1, by rw [hk k k1]; exact k2⟩
theorem pX1_columnOf (n : Nat) (μ m : am_M) (p q : Int) (K : Kx n μ m) (h22 : m 32 22 = 1) (p0 : 0 ≤ p) (p1 : p < m 32 23) (hq : q ∈ md_hr m 0 (m 32 7).toNat) : AC 19 [(2, 4), (2, nf q), (0, p)] n μ (PI n (fun x μ' => Of Sco μ μ' ∧ x = μ' (nf q) 15 ∧ ∀ k ∈ md_hr m 0 (m 32 7).toNat, bH μ m p k → m 51 k = m 51 q → IsC μ m p (fun z => μ' (nf z) 15) k)) := by
  obtain ⟨a1, a2, a3, a4⟩ := K.all h22
  obtain ⟨⟨q0, q1⟩, q2⟩ := a4 q hq
  obtain ⟨r1, -, -⟩ := K.nt q0 q1
  obtain ⟨rq, hrq⟩ : ∃ r, r = nf q := ⟨_, rfl⟩
  have hnd := md_hr_nodup (μ := m) (fr := 0) (m 32 7).toNat
  rw [← hrq] at r1 q2 ⊢
  have hk_rq := r1.k
  have hg_rq := r1.1
  obtain ⟨PP, hPP⟩ : ∃ P : Option am_V → Nat → am_M → Prop, P = PI n (fun x μ' => Of Sco μ μ' ∧ x = μ' rq 15 ∧ ∀ k ∈ md_hr m 0 (m 32 7).toNat, bH μ m p k → m 51 k = m 51 q → IsC μ m p (fun z => μ' (nf z) 15) k) := ⟨_, rfl⟩
  rw [← hPP]
  have F : ∀ (suf pre : List Int) (μ1 : am_M) (v4 : am_V), md_hr m 0 (m 32 7).toNat = pre ++ suf → Of Sco μ μ1 → (∀ k ∈ pre, bH μ m p k → m 51 k = m 51 q → IsC μ m p (fun z => μ1 (nf z) 15) k ∧ μ1 (nf k) 15 < 24) → AW none 19 2 [(2, 4), (2, rq), (0, p), (0, (pre.length : Int)), v4] [] n μ1 PP := by
    intro suf
    induction suf with
    | nil =>
      intro pre μ1 v4 hps hO hdone
      have K1 := K.tr hO
      have hl := K1.1
      obtain ⟨b1, b2, b3, b4⟩ := K1.all h22
      have hpe : md_hr m 0 (m 32 7).toNat = pre := by rw [hps]; simp
      refine aw_iload_n (q := 3) mX1_columnOf dX1_columnOf_2 rfl rfl ?_
      refine aw_aload_n (q := 4) mX1_columnOf dX1_columnOf_3 rfl rfl ?_
      refine aw_get (t := 2) (ji := 12) (q := 7) mX1_columnOf dX1_columnOf_4 rfl f1_48 rfl kd_4 rfl (ly_4_12 hl) ?_
      refine aw_get (t := 0) (ji := 1) (q := 10) mX1_columnOf dX1_columnOf_7 rfl f1_180 rfl kd_15 rfl b2 ?_
      refine aw_icmp_ge (tgt := 66) (q := 13) mX1_columnOf dX1_columnOf_10 rfl (by decide) (fun c_10 => ?_) (fun c_10 => ?_)
      · refine aw_aload_n (q := 67) mX1_columnOf dX1_columnOf_66 rfl rfl ?_
        refine aw_get (t := 0) (ji := 15) (q := 70) mX1_columnOf dX1_columnOf_67 rfl f1_187 rfl hk_rq rfl rfl ?_
        refine aw_iret mX1_columnOf dX1_columnOf_70 ?_
        rw [hPP]
        exact ⟨_, rfl, rfl, hO, rfl, fun k hk h1 h2 => (hdone k (by rw [← hpe]; exact hk) h1 h2).1⟩
      · exact absurd c_10 (by rw [hpe]; omega)
    | cons k suf ih =>
      intro pre μ1 v4 hps hO hdone
      have K1 := K.tr hO
      have hl := K1.1
      obtain ⟨b1, b2, b3, b4⟩ := K1.all h22
      have hpl : (md_hr m 0 (m 32 7).toNat).length = pre.length + suf.length + 1 := by rw [hps]; simp; omega
      have hkm : k ∈ md_hr m 0 (m 32 7).toNat := by rw [hps]; simp
      obtain ⟨⟨k0, k1⟩, k2⟩ := b4 k hkm
      obtain ⟨y1, y2, y3⟩ := K1.nt k0 k1
      have hbk := K1.hb k0 k1 p0 p1
      have e43 : ∀ z, μ1 43 z = μ 43 z := fun z => hO 43 z (by unfold Sco; omega)
      have ebL : ∀ z, bL μ1 m p z = bL μ m p z := fun z => by unfold bL; rw [e43]
      have ebH : ∀ z, bH μ1 m p z = bH μ m p z := fun z => by unfold bH; rw [e43, ebL]
      have ebM : ∀ z w, bM μ1 m p z w = bM μ m p z w := fun z w => by unfold bM; rw [ebH, ebL]
      rw [ebH] at hbk
      have eq12 : μ1 rq 12 = m 51 q := (hO rq 12 (by unfold Sco; omega)).trans q2
      obtain ⟨r, hr⟩ : ∃ r, r = nf k := ⟨_, rfl⟩
      rw [← hr] at y1 k2 hbk
      have hk_r := y1.k
      have hg_r := y1.1
      have er : μ1 16 (pre.length : Int) = r := by
        have h9 := b1
        rw [hps, List.map_append, List.map_cons] at h9
        have := Ar.mid h9
        rw [List.length_map] at this
        rw [hr]; exact this
      have N : ∀ (μ2 : am_M) (w4 : am_V), Of Sco μ μ2 → (∀ z ∈ pre ++ [k], bH μ m p z → m 51 z = m 51 q → IsC μ m p (fun z => μ2 (nf z) 15) z ∧ μ2 (nf z) 15 < 24) → AW none 19 60 [(2, 4), (2, rq), (0, p), (0, (pre.length : Int)), w4] [] n μ2 PP := by
        intro μ2 w4 hO2 hd2
        have h9 := ih (pre ++ [k]) μ2 w4 (by rw [hps]; simp) hO2 hd2
        refine aw_iinc (q := 63) mX1_columnOf dX1_columnOf_60 rfl rfl (by decide) (by omega) (by omega) rfl ?_
        refine aw_goto (q := 2) mX1_columnOf dX1_columnOf_63 (by decide) ?_
        rw [List.length_append] at h9
        exact h9
      have skip : ¬ (bH μ m p k ∧ m 51 k = m 51 q) → ∀ z ∈ pre ++ [k], bH μ m p z → m 51 z = m 51 q → IsC μ m p (fun z => μ1 (nf z) 15) z ∧ μ1 (nf z) 15 < 24 := fun hn z hz h1 h2 => by
        rcases List.mem_append.mp hz with hz | hz
        · exact hdone z hz h1 h2
        · have : z = k := by simpa using hz
          rw [this] at h1 h2
          exact absurd ⟨h1, h2⟩ hn
      refine aw_iload_n (q := 3) mX1_columnOf dX1_columnOf_2 rfl rfl ?_
      refine aw_aload_n (q := 4) mX1_columnOf dX1_columnOf_3 rfl rfl ?_
      refine aw_get (t := 2) (ji := 12) (q := 7) mX1_columnOf dX1_columnOf_4 rfl f1_48 rfl kd_4 rfl (ly_4_12 hl) ?_
      refine aw_get (t := 0) (ji := 1) (q := 10) mX1_columnOf dX1_columnOf_7 rfl f1_180 rfl kd_15 rfl b2 ?_
      refine aw_icmp_ge (tgt := 66) (q := 13) mX1_columnOf dX1_columnOf_10 rfl (by decide) (fun c_10 => ?_) (fun c_10 => ?_)
      · exact absurd c_10 (by omega)
      · refine aw_aload_n (q := 14) mX1_columnOf dX1_columnOf_13 rfl rfl ?_
        refine aw_get (t := 2) (ji := 12) (q := 17) mX1_columnOf dX1_columnOf_14 rfl f1_48 rfl kd_4 rfl (ly_4_12 hl) ?_
        refine aw_get (t := 2) (ji := 0) (q := 20) mX1_columnOf dX1_columnOf_17 rfl f1_123 rfl kd_15 rfl (ly_15_0 hl) ?_
        refine aw_iload_n (q := 21) mX1_columnOf dX1_columnOf_20 rfl rfl ?_
        refine aw_aald (q := 22) mX1_columnOf dX1_columnOf_21 rfl kd_16 (by omega) (by omega) er ?_
        refine aw_astore (q := 24) mX1_columnOf dX1_columnOf_22 rfl (by decide) rfl ?_
        refine aw_aload (q := 26) mX1_columnOf dX1_columnOf_24 rfl rfl ?_
        refine aw_get (t := 0) (ji := 12) (q := 29) mX1_columnOf dX1_columnOf_26 rfl f1_148 rfl hk_r rfl k2 ?_
        refine aw_aload_n (q := 30) mX1_columnOf dX1_columnOf_29 rfl rfl ?_
        refine aw_get (t := 0) (ji := 12) (q := 33) mX1_columnOf dX1_columnOf_30 rfl f1_148 rfl hk_rq rfl eq12 ?_
        refine aw_icmp_ne (tgt := 60) (q := 36) mX1_columnOf dX1_columnOf_33 rfl (by decide) (fun c_33 => ?_) (fun c_33 => ?_)
        · exact N μ1 _ hO (skip (fun z => c_33 z.2))
        · have hside : m 51 k = m 51 q := Decidable.not_not.mp c_33
          refine aw_aload_n (q := 37) mX1_columnOf dX1_columnOf_36 rfl rfl ?_
          refine aw_aload (q := 39) mX1_columnOf dX1_columnOf_37 rfl rfl ?_
          refine aw_iload_n (q := 40) mX1_columnOf dX1_columnOf_39 rfl rfl ?_
          refine aw_v2 (ci := 1) (q := 43) mX1_columnOf dX1_columnOf_40 rfl l1_167 k19_14 rfl kd_4 rfl rfl rfl (hbk) (kint (fun y μ3 hy => ?_))
          obtain ⟨hm3, hy⟩ := hy
          subst hm3
          refine aw_if_eq (tgt := 60) (q := 46) mX1_columnOf dX1_columnOf_43 rfl (by decide) (fun c_43 => ?_) (fun c_43 => ?_)
          · refine N _ _ hO (skip (fun z => ?_))
            rcases hy with ⟨y1, -⟩ | ⟨-, y2⟩
            · omega
            · exact y2 z.1
          · have hbh : bH μ m p k := by
              rcases hy with ⟨-, y2⟩ | ⟨y1, -⟩
              · exact y2
              · exact absurd y1 c_43
            have hta := pX1_takenAhead n μ3 m p k pre suf K1 h22 p0 p1 hps (fun z hz h1 h2 => by
              rw [ebH] at h1
              have := hdone z hz h1 (h2.trans hside)
              exact ⟨this.1.1, this.2⟩)
            simp only [ebM] at hta
            refine aw_aload (q := 48) mX1_columnOf dX1_columnOf_46 rfl rfl ?_
            refine aw_aload_n (q := 49) mX1_columnOf dX1_columnOf_48 rfl rfl ?_
            refine aw_iload_n (q := 50) mX1_columnOf dX1_columnOf_49 rfl rfl ?_
            refine aw_iload_n (q := 51) mX1_columnOf dX1_columnOf_50 rfl rfl ?_
            refine aw_v2 (ci := 1) (q := 54) mX1_columnOf dX1_columnOf_51 rfl l1_181 k19_20 rfl kd_4 rfl rfl rfl (hta) (kint (fun t μ4 ht => ?_))
            obtain ⟨hm4, ht⟩ := ht
            subst hm4
            refine aw_s1 (q := 57) mX1_columnOf dX1_columnOf_54 rfl lm1_184 l1_184 k19_21 rfl rfl rfl (pX1_leastFree n μ4 t) (kint (fun x μ5 hx => ?_))
            obtain ⟨hm5, x0, x1, x2, x3⟩ := hx
            subst hm5
            have hxl : x ≤ (pre.length : Int) := by
              have := pigeon x.toNat (pre.map (fun z => μ5 (nf z) 15)) (fun c hc => by
                obtain ⟨k', z1, z2⟩ := (ht (c : Int) (by omega) (by omega)).mp (x2 (c : Int) (by omega) (by omega))
                exact List.mem_map.mpr ⟨k', (ah_pre hps z1.1).mpr z1.2.1, z2⟩)
              rw [List.length_map] at this
              omega
            have hx24 : x < 24 := by omega
            refine aw_put (t := 0) (ji := 15) (q := 60) mX1_columnOf dX1_columnOf_57 rfl f1_187 rfl hk_r rfl (Or.inl rfl) (Or.inl (by decide)) (fun μ_57 e_57 => ?_)
            have hl : Lay n μ_57 := by rw [e_57]; exact Lay.setN hg_r (fun _ => by decide) hl
            have hO6 : Of Sco μ μ_57 := by rw [e_57]; exact hO.set (by unfold Sco; exact ⟨y1.1, y1.2.2, rfl⟩)
            have hne : ∀ z ∈ pre, nf z ≠ r := fun z hz hzr => by
              have := nf_inj (hzr.trans hr)
              rw [hps] at hnd
              rw [this] at hz
              exact (List.nodup_append.mp hnd).2.2 k hz k List.mem_cons_self rfl
            have keep : ∀ z ∈ pre, μ_57 (nf z) 15 = μ5 (nf z) 15 := fun z hz => by rw [e_57, am_sn (Or.inl (hne z hz))]
            have hnew : μ_57 (nf k) 15 = x := by rw [← hr, e_57, am_ss]
            refine N μ_57 _ hO6 (fun z hz h1 h2 => ?_)
            rcases List.mem_append.mp hz with hz | hz
            · obtain ⟨d1, d2⟩ := hdone z hz h1 h2
              refine ⟨d1.cg (keep z hz) (fun w hw => keep w ?_), by rw [keep z hz]; exact d2⟩
              obtain ⟨s, t', hst⟩ := List.append_of_mem hz
              have hw2 := (ah_pre (pre := s) (suf := t' ++ k :: suf) (n := z) (by rw [hps, hst]; simp) hw.1).mpr hw.2.1
              rw [hst]
              exact List.mem_append_left _ hw2
            · have hzk : z = k := by simpa using hz
              subst hzk
              refine ⟨⟨?_, fun w hw => ?_, fun c c0 c1 => ?_⟩, ?_⟩
              · show 0 ≤ μ_57 (nf z) 15
                rw [hnew]; exact x0
              · show μ_57 (nf w) 15 ≠ μ_57 (nf z) 15
                have hwp := (ah_pre hps hw.1).mpr hw.2.1
                rw [hnew, keep w hwp]
                intro hwx
                exact x3 hx24 ((ht x x0 hx24).mpr ⟨w, hw, hwx⟩)
              · have c1 : c < μ_57 (nf z) 15 := c1
                rw [hnew] at c1
                obtain ⟨w, w1, w2⟩ := (ht c c0 (by omega)).mp (x2 c c0 c1)
                exact ⟨w, w1, by show μ_57 (nf w) 15 = c; rw [keep w ((ah_pre hps w1.1).mpr w1.2.1)]; exact w2⟩
              · rw [hnew]; exact hx24
  refine AC.of rfl ?_
  refine aw_iconst (q := 1) mX1_columnOf dX1_columnOf_0 rfl rfl ?_
  refine aw_istore_n (q := 2) mX1_columnOf dX1_columnOf_1 rfl (by decide) rfl ?_
  exact F _ [] μ _ rfl Of.rf (fun k hk => by simp at hk)

/-! the class: questions (text by wip/gen/genask.py) -/
theorem Kx.ln {n : Nat} {μ m : am_M} (K : Kx n μ m) (h22 : m 32 22 = 1) {l : Int} (l0 : 0 ≤ l) (l1 : l < m 32 7) : μ 6 l = m 49 l ∧ μ 5 l = m 50 l ∧ l < 60 := by
  have hBm := K.2.1.tr K.2.2.2.1
  have hfr : frP m (m 32 23) = m 32 7 := by
    rcases K.2.2.2.2.1.2.2.2 with h | h
    · exact h.2
    · omega
  obtain ⟨h1, h2⟩ := K.2.2.2.2.2.2.2.2.1 l l0 (by rw [hfr]; exact l1)
  exact ⟨h1, h2, by have := hBm.2.2.2.2.2.1; omega⟩
theorem Kx.nn {n : Nat} {μ m : am_M} (K : Kx n μ m) (h22 : m 32 22 = 1) {k : Int} (k0 : 0 ≤ k) (k1 : k < m 32 8) (hs : am_bit (m 32 5) (m 38 k) = 1) : k ∈ md_hr m 0 (m 32 7).toNat ∧ μ (nf k) 12 = m 51 k ∧ μ (nf k) 13 = m 52 k ∧ μ (nf k) 14 = m 54 k := by
  have hBm := K.2.1.tr K.2.2.2.1
  have hfr : frP m (m 32 23) = m 32 7 := by
    rcases K.2.2.2.2.1.2.2.2 with h | h
    · exact h.2
    · omega
  have hk : k ∈ md_hr m 0 (m 32 7).toNat := md_hr_iff.mpr ⟨by omega, by have := (hBm.2.2.2.2.2.2.2.2 k k0 k1).1; omega, by unfold md_setB; simp [hs]⟩
  have h1 := K.2.2.2.2.2.2.2.2.2.1 k (by rw [hfr]; exact hk)
  exact ⟨hk, h1.2⟩
theorem f_ln0 {l : Int} {m : am_M} (hM : MS m) (h : f_ln l m = 0) : (0 ≤ l ∧ l < m 32 7) ∧ m 32 22 = 1 := by
  unfold f_ln at h
  have := hM.h01
  by_cases h1 : 0 ≤ l ∧ l < m 32 7
  · rw [if_pos h1] at h
    by_cases h2 : m 32 22 = 0
    · rw [if_pos h2] at h; omega
    · exact ⟨h1, by omega⟩
  · rw [if_neg h1] at h; omega
theorem f_nt0 {k : Int} {m : am_M} (hM : MS m) (h : f_nt k m = 0) : (0 ≤ k ∧ k < m 32 8) ∧ am_bit (m 32 5) (m 38 k) = 1 ∧ m 32 22 = 1 := by
  unfold f_nt at h
  have := hM.h01
  by_cases h1 : 0 ≤ k ∧ k < m 32 8
  · rw [if_pos h1] at h
    by_cases h3 : am_bit (m 32 5) (m 38 k) = 1
    · rw [if_pos h3] at h
      by_cases h2 : m 32 22 = 0
      · rw [if_pos h2] at h; omega
      · exact ⟨h1, h3, by omega⟩
    · rw [if_neg h3] at h; omega
  · rw [if_neg h1] at h; omega
theorem f_pg0 {p : Int} {m : am_M} (hM : MS m) (h : f_pg p m = 0) : (0 ≤ p ∧ p < m 32 23) ∧ m 32 22 = 1 := by
  unfold f_pg at h
  have := hM.h01
  by_cases h2 : m 32 22 = 0
  · rw [if_pos h2] at h; omega
  · rw [if_neg h2] at h
    by_cases h1 : 0 ≤ p ∧ p < m 32 23
    · exact ⟨h1, by omega⟩
    · rw [if_neg h1] at h; omega
def vl_pageOf (l : Int) (m : am_M) (x : Int) : Prop := x = m 50 l
theorem qc_pageOf {n : Nat} {μ : am_M} (l : Int) (hJ : J n μ) : QC 66 [(0, l)] n μ (Fq (f_ln l) (vl_pageOf l)) := by
  have hl := hJ.1
  refine AC.of rfl ?_
  refine aw_aload_n (q := 1) mX6_pageOf dX6_pageOf_0 rfl rfl ?_
  refine aw_get (t := 2) (ji := 1) (q := 4) mX6_pageOf dX6_pageOf_1 rfl f6_21 rfl kd_0 rfl (ly_0_1 hl) ?_
  refine aw_v0 (ci := 1) (q := 7) mX6_pageOf dX6_pageOf_4 rfl l6_141 k66_8 rfl kd_4 rfl rfl rfl (qc_refresh hJ) (kvoid (fun μ1 h1 => ?_))
  obtain ⟨hO, h45, m, hb, K⟩ := h1
  have hl := K.1
  refine aw_aload_n (q := 8) mX6_pageOf dX6_pageOf_7 rfl rfl ?_
  refine aw_iload_n (q := 9) mX6_pageOf dX6_pageOf_8 rfl rfl ?_
  refine aw_v1 (ci := 6) (q := 12) mX6_pageOf dX6_pageOf_9 rfl l6_150 k66_76 rfl kd_0 rfl rfl rfl (pX6_faultOfLine n μ1 m l K) (kpure ?_)
  refine aw_istore_n (q := 13) mX6_pageOf dX6_pageOf_12 rfl (by decide) rfl ?_
  refine aw_iload_n (q := 14) mX6_pageOf dX6_pageOf_13 rfl rfl ?_
  refine aw_if_ne (tgt := 33) (q := 17) mX6_pageOf dX6_pageOf_14 rfl (by decide) (fun c_14 => ?_) (fun c_14 => ?_)
  · refine aw_aload_n (q := 34) mX6_pageOf dX6_pageOf_33 rfl rfl ?_
    refine aw_iload_n (q := 35) mX6_pageOf dX6_pageOf_34 rfl rfl ?_
    refine aw_v1 (ci := 6) (q := 38) mX6_pageOf dX6_pageOf_35 rfl l6_50 k66_83 rfl kd_0 rfl rfl rfl (pX6_none n μ1 (f_ln l m)) (kset (fun μ2 h2 => ?_))
    refine aw_iret mX6_pageOf dX6_pageOf_38 ?_
    exact qc_end hO h45 hb K h2 (Or.inl ⟨c_14, rfl, rfl⟩)
  · have h0 : f_ln l m = 0 := Decidable.not_not.mp c_14
    obtain ⟨hll, h22⟩ := f_ln0 K.2.2.2.2.1 h0
    have ht := K.ln h22 hll.1 hll.2
    refine aw_aload_n (q := 18) mX6_pageOf dX6_pageOf_17 rfl rfl ?_
    refine aw_aload_n (q := 19) mX6_pageOf dX6_pageOf_18 rfl rfl ?_
    refine aw_get (t := 2) (ji := 1) (q := 22) mX6_pageOf dX6_pageOf_19 rfl f6_21 rfl kd_0 rfl (ly_0_1 hl) ?_
    refine aw_get (t := 2) (ji := 0) (q := 25) mX6_pageOf dX6_pageOf_22 rfl f6_153 rfl kd_4 rfl (ly_4_0 hl) ?_
    refine aw_iload_n (q := 26) mX6_pageOf dX6_pageOf_25 rfl rfl ?_
    refine aw_iald (q := 27) mX6_pageOf dX6_pageOf_26 rfl kd_5 (by omega) (by omega) ht.2.1 ?_
    refine aw_v1 (ci := 6) (q := 30) mX6_pageOf dX6_pageOf_27 rfl l6_60 k66_82 rfl kd_0 rfl rfl rfl (pX6_give n μ1 (m 50 l)) (kset (fun μ2 h2 => ?_))
    refine aw_goto (q := 38) mX6_pageOf dX6_pageOf_30 (by decide) ?_
    refine aw_iret mX6_pageOf dX6_pageOf_38 ?_
    exact qc_end hO h45 hb K h2 (Or.inr ⟨h0, rfl, rfl⟩)
def vl_top (l : Int) (m : am_M) (x : Int) : Prop := x = m 49 l
theorem qc_top {n : Nat} {μ : am_M} (l : Int) (hJ : J n μ) : QC 67 [(0, l)] n μ (Fq (f_ln l) (vl_top l)) := by
  have hl := hJ.1
  refine AC.of rfl ?_
  refine aw_aload_n (q := 1) mX6_top dX6_top_0 rfl rfl ?_
  refine aw_get (t := 2) (ji := 1) (q := 4) mX6_top dX6_top_1 rfl f6_21 rfl kd_0 rfl (ly_0_1 hl) ?_
  refine aw_v0 (ci := 1) (q := 7) mX6_top dX6_top_4 rfl l6_141 k67_8 rfl kd_4 rfl rfl rfl (qc_refresh hJ) (kvoid (fun μ1 h1 => ?_))
  obtain ⟨hO, h45, m, hb, K⟩ := h1
  have hl := K.1
  refine aw_aload_n (q := 8) mX6_top dX6_top_7 rfl rfl ?_
  refine aw_iload_n (q := 9) mX6_top dX6_top_8 rfl rfl ?_
  refine aw_v1 (ci := 6) (q := 12) mX6_top dX6_top_9 rfl l6_150 k67_76 rfl kd_0 rfl rfl rfl (pX6_faultOfLine n μ1 m l K) (kpure ?_)
  refine aw_istore_n (q := 13) mX6_top dX6_top_12 rfl (by decide) rfl ?_
  refine aw_iload_n (q := 14) mX6_top dX6_top_13 rfl rfl ?_
  refine aw_if_ne (tgt := 33) (q := 17) mX6_top dX6_top_14 rfl (by decide) (fun c_14 => ?_) (fun c_14 => ?_)
  · refine aw_aload_n (q := 34) mX6_top dX6_top_33 rfl rfl ?_
    refine aw_iload_n (q := 35) mX6_top dX6_top_34 rfl rfl ?_
    refine aw_v1 (ci := 6) (q := 38) mX6_top dX6_top_35 rfl l6_50 k67_83 rfl kd_0 rfl rfl rfl (pX6_none n μ1 (f_ln l m)) (kset (fun μ2 h2 => ?_))
    refine aw_iret mX6_top dX6_top_38 ?_
    exact qc_end hO h45 hb K h2 (Or.inl ⟨c_14, rfl, rfl⟩)
  · have h0 : f_ln l m = 0 := Decidable.not_not.mp c_14
    obtain ⟨hll, h22⟩ := f_ln0 K.2.2.2.2.1 h0
    have ht := K.ln h22 hll.1 hll.2
    refine aw_aload_n (q := 18) mX6_top dX6_top_17 rfl rfl ?_
    refine aw_aload_n (q := 19) mX6_top dX6_top_18 rfl rfl ?_
    refine aw_get (t := 2) (ji := 1) (q := 22) mX6_top dX6_top_19 rfl f6_21 rfl kd_0 rfl (ly_0_1 hl) ?_
    refine aw_get (t := 2) (ji := 1) (q := 25) mX6_top dX6_top_22 rfl f6_156 rfl kd_4 rfl (ly_4_1 hl) ?_
    refine aw_iload_n (q := 26) mX6_top dX6_top_25 rfl rfl ?_
    refine aw_iald (q := 27) mX6_top dX6_top_26 rfl kd_6 (by omega) (by omega) ht.1 ?_
    refine aw_v1 (ci := 6) (q := 30) mX6_top dX6_top_27 rfl l6_60 k67_82 rfl kd_0 rfl rfl rfl (pX6_give n μ1 (m 49 l)) (kset (fun μ2 h2 => ?_))
    refine aw_goto (q := 38) mX6_top dX6_top_30 (by decide) ?_
    refine aw_iret mX6_top dX6_top_38 ?_
    exact qc_end hO h45 hb K h2 (Or.inr ⟨h0, rfl, rfl⟩)
def vl_side (k : Int) (m : am_M) (x : Int) : Prop := x = m 51 k
theorem qc_side {n : Nat} {μ : am_M} (k : Int) (hJ : J n μ) : QC 68 [(0, k)] n μ (Fq (f_nt k) (vl_side k)) := by
  have hl := hJ.1
  refine AC.of rfl ?_
  refine aw_aload_n (q := 1) mX6_side dX6_side_0 rfl rfl ?_
  refine aw_get (t := 2) (ji := 1) (q := 4) mX6_side dX6_side_1 rfl f6_21 rfl kd_0 rfl (ly_0_1 hl) ?_
  refine aw_v0 (ci := 1) (q := 7) mX6_side dX6_side_4 rfl l6_141 k68_8 rfl kd_4 rfl rfl rfl (qc_refresh hJ) (kvoid (fun μ1 h1 => ?_))
  obtain ⟨hO, h45, m, hb, K⟩ := h1
  have hl := K.1
  have e8 : m 32 8 = μ1 32 8 := K.2.2.2.1.1 8 (by decide) (by decide)
  refine aw_aload_n (q := 8) mX6_side dX6_side_7 rfl rfl ?_
  refine aw_get (t := 2) (ji := 0) (q := 11) mX6_side dX6_side_8 rfl f6_12 rfl kd_0 rfl (ly_0_0 hl) ?_
  refine aw_iload_n (q := 12) mX6_side dX6_side_11 rfl rfl ?_
  refine aw_v1 (ci := 0) (q := 15) mX6_side dX6_side_12 rfl l6_85 k68_4 rfl kd_1 rfl rfl rfl (pX0_find n μ1 k hl K.2.1 K.2.2.1) (kref (fun a ha => ?_))
  have hN : ∀ L, f_nt k m ≠ 0 → L = [(2, 0), (0, k), (2, a), (0, f_nt k m)] → AW none 68 41 L [] n μ1 (fun r n1 μ1 => ∃ x, r = some (0, x) ∧ n1 = n ∧ Of Sq2 μ μ1 ∧ μ1 4 5 = 0 ∧ ∃ m, BE μ m ∧ MS m ∧ Cls μ1 m ∧ Fq (f_nt k) (vl_side k) m x (μ1 0 2)) := by
    intro L hf hL
    subst hL
    refine aw_aload_n (q := 42) mX6_side dX6_side_41 rfl rfl ?_
    refine aw_iload_n (q := 43) mX6_side dX6_side_42 rfl rfl ?_
    refine aw_v1 (ci := 6) (q := 46) mX6_side dX6_side_43 rfl l6_50 k68_83 rfl kd_0 rfl rfl rfl (pX6_none n μ1 (f_nt k m)) (kset (fun μ2 h2 => ?_))
    refine aw_iret mX6_side dX6_side_46 ?_
    exact qc_end hO h45 hb K h2 (Or.inl ⟨hf, rfl, rfl⟩)
  refine aw_astore_n (q := 16) mX6_side dX6_side_15 rfl (by decide) rfl ?_
  refine aw_aload_n (q := 17) mX6_side dX6_side_16 rfl rfl ?_
  refine aw_aload_n (q := 18) mX6_side dX6_side_17 rfl rfl ?_
  refine aw_v1 (ci := 6) (q := 21) mX6_side dX6_side_18 rfl l6_159 k68_77 rfl kd_0 rfl rfl rfl (pX6_faultOfNote n μ1 m k a K ha) (kpure ?_)
  refine aw_istore_n (q := 22) mX6_side dX6_side_21 rfl (by decide) rfl ?_
  refine aw_aload_n (q := 23) mX6_side dX6_side_22 rfl rfl ?_
  refine aw_ifnull (tgt := 41) (q := 26) mX6_side dX6_side_23 rfl (by decide) (fun c_23 => ?_) (fun c_23 => ?_)
  · refine hN _ (fun z => ?_) rfl
    have := f_nt0 K.2.2.2.2.1 z
    rcases ha with ⟨ha, k0, k1⟩ | ⟨ha, hn⟩
    · unfold nf at ha; omega
    · omega
  · refine aw_iload_n (q := 27) mX6_side dX6_side_26 rfl rfl ?_
    refine aw_if_ne (tgt := 41) (q := 30) mX6_side dX6_side_27 rfl (by decide) (fun c_27 => ?_) (fun c_27 => ?_)
    · exact hN _ c_27 rfl
    · have h0 : f_nt k m = 0 := Decidable.not_not.mp c_27
      obtain ⟨hkk, hsh, h22⟩ := f_nt0 K.2.2.2.2.1 h0
      have hval := K.nn h22 hkk.1 hkk.2 hsh
      rcases ha with ⟨ha, k0, k1⟩ | ⟨ha, hn⟩
      · obtain ⟨r1, -, -⟩ := K.nt k0 k1
        rw [← ha] at hval r1
        have hk_a := r1.k
        refine aw_aload_n (q := 31) mX6_side dX6_side_30 rfl rfl ?_
        refine aw_aload_n (q := 32) mX6_side dX6_side_31 rfl rfl ?_
        refine aw_get (t := 0) (ji := 12) (q := 35) mX6_side dX6_side_32 rfl f6_162 rfl hk_a rfl hval.2.1 ?_
        refine aw_v1 (ci := 6) (q := 38) mX6_side dX6_side_35 rfl l6_60 k68_82 rfl kd_0 rfl rfl rfl (pX6_give n μ1 (m 51 k)) (kset (fun μ2 h2 => ?_))
        refine aw_goto (q := 46) mX6_side dX6_side_38 (by decide) ?_
        refine aw_iret mX6_side dX6_side_46 ?_
        exact qc_end hO h45 hb K h2 (Or.inr ⟨h0, rfl, rfl⟩)
      · exfalso; omega
def vl_place (k : Int) (m : am_M) (x : Int) : Prop := x = m 52 k
theorem qc_place {n : Nat} {μ : am_M} (k : Int) (hJ : J n μ) : QC 69 [(0, k)] n μ (Fq (f_nt k) (vl_place k)) := by
  have hl := hJ.1
  refine AC.of rfl ?_
  refine aw_aload_n (q := 1) mX6_place dX6_place_0 rfl rfl ?_
  refine aw_get (t := 2) (ji := 1) (q := 4) mX6_place dX6_place_1 rfl f6_21 rfl kd_0 rfl (ly_0_1 hl) ?_
  refine aw_v0 (ci := 1) (q := 7) mX6_place dX6_place_4 rfl l6_141 k69_8 rfl kd_4 rfl rfl rfl (qc_refresh hJ) (kvoid (fun μ1 h1 => ?_))
  obtain ⟨hO, h45, m, hb, K⟩ := h1
  have hl := K.1
  have e8 : m 32 8 = μ1 32 8 := K.2.2.2.1.1 8 (by decide) (by decide)
  refine aw_aload_n (q := 8) mX6_place dX6_place_7 rfl rfl ?_
  refine aw_get (t := 2) (ji := 0) (q := 11) mX6_place dX6_place_8 rfl f6_12 rfl kd_0 rfl (ly_0_0 hl) ?_
  refine aw_iload_n (q := 12) mX6_place dX6_place_11 rfl rfl ?_
  refine aw_v1 (ci := 0) (q := 15) mX6_place dX6_place_12 rfl l6_85 k69_4 rfl kd_1 rfl rfl rfl (pX0_find n μ1 k hl K.2.1 K.2.2.1) (kref (fun a ha => ?_))
  have hN : ∀ L, f_nt k m ≠ 0 → L = [(2, 0), (0, k), (2, a), (0, f_nt k m)] → AW none 69 41 L [] n μ1 (fun r n1 μ1 => ∃ x, r = some (0, x) ∧ n1 = n ∧ Of Sq2 μ μ1 ∧ μ1 4 5 = 0 ∧ ∃ m, BE μ m ∧ MS m ∧ Cls μ1 m ∧ Fq (f_nt k) (vl_place k) m x (μ1 0 2)) := by
    intro L hf hL
    subst hL
    refine aw_aload_n (q := 42) mX6_place dX6_place_41 rfl rfl ?_
    refine aw_iload_n (q := 43) mX6_place dX6_place_42 rfl rfl ?_
    refine aw_v1 (ci := 6) (q := 46) mX6_place dX6_place_43 rfl l6_50 k69_83 rfl kd_0 rfl rfl rfl (pX6_none n μ1 (f_nt k m)) (kset (fun μ2 h2 => ?_))
    refine aw_iret mX6_place dX6_place_46 ?_
    exact qc_end hO h45 hb K h2 (Or.inl ⟨hf, rfl, rfl⟩)
  refine aw_astore_n (q := 16) mX6_place dX6_place_15 rfl (by decide) rfl ?_
  refine aw_aload_n (q := 17) mX6_place dX6_place_16 rfl rfl ?_
  refine aw_aload_n (q := 18) mX6_place dX6_place_17 rfl rfl ?_
  refine aw_v1 (ci := 6) (q := 21) mX6_place dX6_place_18 rfl l6_159 k69_77 rfl kd_0 rfl rfl rfl (pX6_faultOfNote n μ1 m k a K ha) (kpure ?_)
  refine aw_istore_n (q := 22) mX6_place dX6_place_21 rfl (by decide) rfl ?_
  refine aw_aload_n (q := 23) mX6_place dX6_place_22 rfl rfl ?_
  refine aw_ifnull (tgt := 41) (q := 26) mX6_place dX6_place_23 rfl (by decide) (fun c_23 => ?_) (fun c_23 => ?_)
  · refine hN _ (fun z => ?_) rfl
    have := f_nt0 K.2.2.2.2.1 z
    rcases ha with ⟨ha, k0, k1⟩ | ⟨ha, hn⟩
    · unfold nf at ha; omega
    · omega
  · refine aw_iload_n (q := 27) mX6_place dX6_place_26 rfl rfl ?_
    refine aw_if_ne (tgt := 41) (q := 30) mX6_place dX6_place_27 rfl (by decide) (fun c_27 => ?_) (fun c_27 => ?_)
    · exact hN _ c_27 rfl
    · have h0 : f_nt k m = 0 := Decidable.not_not.mp c_27
      obtain ⟨hkk, hsh, h22⟩ := f_nt0 K.2.2.2.2.1 h0
      have hval := K.nn h22 hkk.1 hkk.2 hsh
      rcases ha with ⟨ha, k0, k1⟩ | ⟨ha, hn⟩
      · obtain ⟨r1, -, -⟩ := K.nt k0 k1
        rw [← ha] at hval r1
        have hk_a := r1.k
        refine aw_aload_n (q := 31) mX6_place dX6_place_30 rfl rfl ?_
        refine aw_aload_n (q := 32) mX6_place dX6_place_31 rfl rfl ?_
        refine aw_get (t := 0) (ji := 13) (q := 35) mX6_place dX6_place_32 rfl f6_165 rfl hk_a rfl hval.2.2.1 ?_
        refine aw_v1 (ci := 6) (q := 38) mX6_place dX6_place_35 rfl l6_60 k69_82 rfl kd_0 rfl rfl rfl (pX6_give n μ1 (m 52 k)) (kset (fun μ2 h2 => ?_))
        refine aw_goto (q := 46) mX6_place dX6_place_38 (by decide) ?_
        refine aw_iret mX6_place dX6_place_46 ?_
        exact qc_end hO h45 hb K h2 (Or.inr ⟨h0, rfl, rfl⟩)
      · exfalso; omega
def vl_rest (k : Int) (m : am_M) (x : Int) : Prop := x = m 54 k
theorem qc_rest {n : Nat} {μ : am_M} (k : Int) (hJ : J n μ) : QC 70 [(0, k)] n μ (Fq (f_nt k) (vl_rest k)) := by
  have hl := hJ.1
  refine AC.of rfl ?_
  refine aw_aload_n (q := 1) mX6_rest dX6_rest_0 rfl rfl ?_
  refine aw_get (t := 2) (ji := 1) (q := 4) mX6_rest dX6_rest_1 rfl f6_21 rfl kd_0 rfl (ly_0_1 hl) ?_
  refine aw_v0 (ci := 1) (q := 7) mX6_rest dX6_rest_4 rfl l6_141 k70_8 rfl kd_4 rfl rfl rfl (qc_refresh hJ) (kvoid (fun μ1 h1 => ?_))
  obtain ⟨hO, h45, m, hb, K⟩ := h1
  have hl := K.1
  have e8 : m 32 8 = μ1 32 8 := K.2.2.2.1.1 8 (by decide) (by decide)
  refine aw_aload_n (q := 8) mX6_rest dX6_rest_7 rfl rfl ?_
  refine aw_get (t := 2) (ji := 0) (q := 11) mX6_rest dX6_rest_8 rfl f6_12 rfl kd_0 rfl (ly_0_0 hl) ?_
  refine aw_iload_n (q := 12) mX6_rest dX6_rest_11 rfl rfl ?_
  refine aw_v1 (ci := 0) (q := 15) mX6_rest dX6_rest_12 rfl l6_85 k70_4 rfl kd_1 rfl rfl rfl (pX0_find n μ1 k hl K.2.1 K.2.2.1) (kref (fun a ha => ?_))
  have hN : ∀ L, f_nt k m ≠ 0 → L = [(2, 0), (0, k), (2, a), (0, f_nt k m)] → AW none 70 41 L [] n μ1 (fun r n1 μ1 => ∃ x, r = some (0, x) ∧ n1 = n ∧ Of Sq2 μ μ1 ∧ μ1 4 5 = 0 ∧ ∃ m, BE μ m ∧ MS m ∧ Cls μ1 m ∧ Fq (f_nt k) (vl_rest k) m x (μ1 0 2)) := by
    intro L hf hL
    subst hL
    refine aw_aload_n (q := 42) mX6_rest dX6_rest_41 rfl rfl ?_
    refine aw_iload_n (q := 43) mX6_rest dX6_rest_42 rfl rfl ?_
    refine aw_v1 (ci := 6) (q := 46) mX6_rest dX6_rest_43 rfl l6_50 k70_83 rfl kd_0 rfl rfl rfl (pX6_none n μ1 (f_nt k m)) (kset (fun μ2 h2 => ?_))
    refine aw_iret mX6_rest dX6_rest_46 ?_
    exact qc_end hO h45 hb K h2 (Or.inl ⟨hf, rfl, rfl⟩)
  refine aw_astore_n (q := 16) mX6_rest dX6_rest_15 rfl (by decide) rfl ?_
  refine aw_aload_n (q := 17) mX6_rest dX6_rest_16 rfl rfl ?_
  refine aw_aload_n (q := 18) mX6_rest dX6_rest_17 rfl rfl ?_
  refine aw_v1 (ci := 6) (q := 21) mX6_rest dX6_rest_18 rfl l6_159 k70_77 rfl kd_0 rfl rfl rfl (pX6_faultOfNote n μ1 m k a K ha) (kpure ?_)
  refine aw_istore_n (q := 22) mX6_rest dX6_rest_21 rfl (by decide) rfl ?_
  refine aw_aload_n (q := 23) mX6_rest dX6_rest_22 rfl rfl ?_
  refine aw_ifnull (tgt := 41) (q := 26) mX6_rest dX6_rest_23 rfl (by decide) (fun c_23 => ?_) (fun c_23 => ?_)
  · refine hN _ (fun z => ?_) rfl
    have := f_nt0 K.2.2.2.2.1 z
    rcases ha with ⟨ha, k0, k1⟩ | ⟨ha, hn⟩
    · unfold nf at ha; omega
    · omega
  · refine aw_iload_n (q := 27) mX6_rest dX6_rest_26 rfl rfl ?_
    refine aw_if_ne (tgt := 41) (q := 30) mX6_rest dX6_rest_27 rfl (by decide) (fun c_27 => ?_) (fun c_27 => ?_)
    · exact hN _ c_27 rfl
    · have h0 : f_nt k m = 0 := Decidable.not_not.mp c_27
      obtain ⟨hkk, hsh, h22⟩ := f_nt0 K.2.2.2.2.1 h0
      have hval := K.nn h22 hkk.1 hkk.2 hsh
      rcases ha with ⟨ha, k0, k1⟩ | ⟨ha, hn⟩
      · obtain ⟨r1, -, -⟩ := K.nt k0 k1
        rw [← ha] at hval r1
        have hk_a := r1.k
        refine aw_aload_n (q := 31) mX6_rest dX6_rest_30 rfl rfl ?_
        refine aw_aload_n (q := 32) mX6_rest dX6_rest_31 rfl rfl ?_
        refine aw_get (t := 0) (ji := 14) (q := 35) mX6_rest dX6_rest_32 rfl f6_168 rfl hk_a rfl hval.2.2.2 ?_
        refine aw_v1 (ci := 6) (q := 38) mX6_rest dX6_rest_35 rfl l6_60 k70_82 rfl kd_0 rfl rfl rfl (pX6_give n μ1 (m 54 k)) (kset (fun μ2 h2 => ?_))
        refine aw_goto (q := 46) mX6_rest dX6_rest_38 (by decide) ?_
        refine aw_iret mX6_rest dX6_rest_46 ?_
        exact qc_end hO h45 hb K h2 (Or.inr ⟨h0, rfl, rfl⟩)
      · exfalso; omega
def vl_cost (p : Int) (m : am_M) (x : Int) : Prop := x = m 48 p
theorem qc_cost {n : Nat} {μ : am_M} (p : Int) (hJ : J n μ) : QC 73 [(0, p)] n μ (Fq (f_pg p) (vl_cost p)) := by
  have hl := hJ.1
  refine AC.of rfl ?_
  refine aw_aload_n (q := 1) mX6_cost dX6_cost_0 rfl rfl ?_
  refine aw_get (t := 2) (ji := 1) (q := 4) mX6_cost dX6_cost_1 rfl f6_21 rfl kd_0 rfl (ly_0_1 hl) ?_
  refine aw_v0 (ci := 1) (q := 7) mX6_cost dX6_cost_4 rfl l6_141 k73_8 rfl kd_4 rfl rfl rfl (qc_refresh hJ) (kvoid (fun μ1 h1 => ?_))
  obtain ⟨hO, h45, m, hb, K⟩ := h1
  have hl := K.1
  refine aw_aload_n (q := 8) mX6_cost dX6_cost_7 rfl rfl ?_
  refine aw_iload_n (q := 9) mX6_cost dX6_cost_8 rfl rfl ?_
  refine aw_v1 (ci := 6) (q := 12) mX6_cost dX6_cost_9 rfl l6_184 k73_78 rfl kd_0 rfl rfl rfl (pX6_faultOfPage n μ1 m p K) (kpure ?_)
  refine aw_istore_n (q := 13) mX6_cost dX6_cost_12 rfl (by decide) rfl ?_
  refine aw_iload_n (q := 14) mX6_cost dX6_cost_13 rfl rfl ?_
  refine aw_if_ne (tgt := 33) (q := 17) mX6_cost dX6_cost_14 rfl (by decide) (fun c_14 => ?_) (fun c_14 => ?_)
  · refine aw_aload_n (q := 34) mX6_cost dX6_cost_33 rfl rfl ?_
    refine aw_iload_n (q := 35) mX6_cost dX6_cost_34 rfl rfl ?_
    refine aw_v1 (ci := 6) (q := 38) mX6_cost dX6_cost_35 rfl l6_50 k73_83 rfl kd_0 rfl rfl rfl (pX6_none n μ1 (f_pg p m)) (kset (fun μ2 h2 => ?_))
    refine aw_iret mX6_cost dX6_cost_38 ?_
    exact qc_end hO h45 hb K h2 (Or.inl ⟨c_14, rfl, rfl⟩)
  · have h0 : f_pg p m = 0 := Decidable.not_not.mp c_14
    obtain ⟨hpp, h22⟩ := f_pg0 K.2.2.2.2.1 h0
    have hpg := K.pg hpp.1 hpp.2
    have hq := (K.2.2.2.2.2.2.2.1 p hpp.1 hpp.2).2.2.1
    refine aw_aload_n (q := 18) mX6_cost dX6_cost_17 rfl rfl ?_
    refine aw_aload_n (q := 19) mX6_cost dX6_cost_18 rfl rfl ?_
    refine aw_get (t := 2) (ji := 1) (q := 22) mX6_cost dX6_cost_19 rfl f6_21 rfl kd_0 rfl (ly_0_1 hl) ?_
    refine aw_get (t := 2) (ji := 2) (q := 25) mX6_cost dX6_cost_22 rfl f6_187 rfl kd_4 rfl (ly_4_2 hl) ?_
    refine aw_iload_n (q := 26) mX6_cost dX6_cost_25 rfl rfl ?_
    refine aw_iald (q := 27) mX6_cost dX6_cost_26 rfl kd_7 (by omega) (by omega) hq ?_
    refine aw_v1 (ci := 6) (q := 30) mX6_cost dX6_cost_27 rfl l6_60 k73_82 rfl kd_0 rfl rfl rfl (pX6_give n μ1 (m 48 p)) (kset (fun μ2 h2 => ?_))
    refine aw_goto (q := 38) mX6_cost dX6_cost_30 (by decide) ?_
    refine aw_iret mX6_cost dX6_cost_38 ?_
    exact qc_end hO h45 hb K h2 (Or.inr ⟨h0, rfl, rfl⟩)
def vl_moved (p : Int) (m : am_M) (x : Int) : Prop := x = md_mv m (md_hr m (m 45 p) (m 46 p).toNat)
theorem qc_moved {n : Nat} {μ : am_M} (p : Int) (hJ : J n μ) : QC 75 [(0, p)] n μ (Fq (f_pg p) (vl_moved p)) := by
  have hl := hJ.1
  refine AC.of rfl ?_
  refine aw_aload_n (q := 1) mX6_moved dX6_moved_0 rfl rfl ?_
  refine aw_get (t := 2) (ji := 1) (q := 4) mX6_moved dX6_moved_1 rfl f6_21 rfl kd_0 rfl (ly_0_1 hl) ?_
  refine aw_v0 (ci := 1) (q := 7) mX6_moved dX6_moved_4 rfl l6_141 k75_8 rfl kd_4 rfl rfl rfl (qc_refresh hJ) (kvoid (fun μ1 h1 => ?_))
  obtain ⟨hO, h45, m, hb, K⟩ := h1
  have hl := K.1
  refine aw_aload_n (q := 8) mX6_moved dX6_moved_7 rfl rfl ?_
  refine aw_iload_n (q := 9) mX6_moved dX6_moved_8 rfl rfl ?_
  refine aw_v1 (ci := 6) (q := 12) mX6_moved dX6_moved_9 rfl l6_184 k75_78 rfl kd_0 rfl rfl rfl (pX6_faultOfPage n μ1 m p K) (kpure ?_)
  refine aw_istore_n (q := 13) mX6_moved dX6_moved_12 rfl (by decide) rfl ?_
  refine aw_iload_n (q := 14) mX6_moved dX6_moved_13 rfl rfl ?_
  refine aw_if_ne (tgt := 32) (q := 17) mX6_moved dX6_moved_14 rfl (by decide) (fun c_14 => ?_) (fun c_14 => ?_)
  · refine aw_aload_n (q := 33) mX6_moved dX6_moved_32 rfl rfl ?_
    refine aw_iload_n (q := 34) mX6_moved dX6_moved_33 rfl rfl ?_
    refine aw_v1 (ci := 6) (q := 37) mX6_moved dX6_moved_34 rfl l6_50 k75_83 rfl kd_0 rfl rfl rfl (pX6_none n μ1 (f_pg p m)) (kset (fun μ2 h2 => ?_))
    refine aw_iret mX6_moved dX6_moved_37 ?_
    exact qc_end hO h45 hb K h2 (Or.inl ⟨c_14, rfl, rfl⟩)
  · have h0 : f_pg p m = 0 := Decidable.not_not.mp c_14
    obtain ⟨hpp, h22⟩ := f_pg0 K.2.2.2.2.1 h0
    refine aw_aload_n (q := 18) mX6_moved dX6_moved_17 rfl rfl ?_
    refine aw_aload_n (q := 19) mX6_moved dX6_moved_18 rfl rfl ?_
    refine aw_get (t := 2) (ji := 1) (q := 22) mX6_moved dX6_moved_19 rfl f6_21 rfl kd_0 rfl (ly_0_1 hl) ?_
    refine aw_iload_n (q := 23) mX6_moved dX6_moved_22 rfl rfl ?_
    refine aw_v1 (ci := 1) (q := 26) mX6_moved dX6_moved_23 rfl l6_194 k75_13 rfl kd_4 rfl rfl rfl (pX1_countMoved n μ1 m p hl K.2.1 K.2.2.1 K.2.2.2.1 K.2.2.2.2.1 K.2.2.2.2.2 hpp.1 hpp.2) (kpure ?_)
    refine aw_v1 (ci := 6) (q := 29) mX6_moved dX6_moved_26 rfl l6_60 k75_82 rfl kd_0 rfl rfl rfl (pX6_give n μ1 _) (kset (fun μ2 h2 => ?_))
    refine aw_goto (q := 37) mX6_moved dX6_moved_29 (by decide) ?_
    refine aw_iret mX6_moved dX6_moved_37 ?_
    exact qc_end hO h45 hb K h2 (Or.inr ⟨h0, rfl, rfl⟩)
def f_rn (p s : Int) (m : am_M) : Int := if 0 ≤ s ∧ s ≤ 1 then f_pg p m else 2
def vl_runs (p s : Int) (m : am_M) (x : Int) : Prop := x = (if 0 < m 47 (2 * p + s) then 1 else 0) + md_rn m s (m 32 3) (if 0 < m 47 (2 * p + s) then m 47 (2 * p + s) + m 32 3 else -1) (md_hr m (m 45 p) (m 46 p).toNat)
theorem qc_runs {n : Nat} {μ : am_M} (p s : Int) (hJ : J n μ) : QC 74 [(0, p), (0, s)] n μ (Fq (f_rn p s) (vl_runs p s)) := by
  have hl := hJ.1
  refine AC.of rfl ?_
  refine aw_aload_n (q := 1) mX6_runs dX6_runs_0 rfl rfl ?_
  refine aw_get (t := 2) (ji := 1) (q := 4) mX6_runs dX6_runs_1 rfl f6_21 rfl kd_0 rfl (ly_0_1 hl) ?_
  refine aw_v0 (ci := 1) (q := 7) mX6_runs dX6_runs_4 rfl l6_141 k74_8 rfl kd_4 rfl rfl rfl (qc_refresh hJ) (kvoid (fun μ1 h1 => ?_))
  obtain ⟨hO, h45, m, hb, K⟩ := h1
  have hl := K.1
  have E : ∀ f, f = f_rn p s m → AW none 74 25 [(2, 0), (0, p), (0, s), (9, 0)] [(0, f)] n μ1 (fun r n1 μ1 => ∃ x, r = some (0, x) ∧ n1 = n ∧ Of Sq2 μ μ1 ∧ μ1 4 5 = 0 ∧ ∃ m, BE μ m ∧ MS m ∧ Cls μ1 m ∧ Fq (f_rn p s) (vl_runs p s) m x (μ1 0 2)) := by
    intro f hf
    refine aw_istore_n (q := 26) mX6_runs dX6_runs_25 rfl (by decide) rfl ?_
    refine aw_iload_n (q := 27) mX6_runs dX6_runs_26 rfl rfl ?_
    refine aw_if_ne (tgt := 46) (q := 30) mX6_runs dX6_runs_27 rfl (by decide) (fun c_27 => ?_) (fun c_27 => ?_)
    · refine aw_aload_n (q := 47) mX6_runs dX6_runs_46 rfl rfl ?_
      refine aw_iload_n (q := 48) mX6_runs dX6_runs_47 rfl rfl ?_
      refine aw_v1 (ci := 6) (q := 51) mX6_runs dX6_runs_48 rfl l6_50 k74_83 rfl kd_0 rfl rfl rfl (pX6_none n μ1 f) (kset (fun μ2 h2 => ?_))
      refine aw_iret mX6_runs dX6_runs_51 ?_
      exact qc_end hO h45 hb K h2 (Or.inl ⟨by rw [← hf]; exact c_27, rfl, hf⟩)
    · have h0 : f_rn p s m = 0 := by rw [← hf]; exact Decidable.not_not.mp c_27
      have h1 := h0
      unfold f_rn at h1
      by_cases hs : 0 ≤ s ∧ s ≤ 1
      · rw [if_pos hs] at h1
        obtain ⟨hpp, h22⟩ := f_pg0 K.2.2.2.2.1 h1
        refine aw_aload_n (q := 31) mX6_runs dX6_runs_30 rfl rfl ?_
        refine aw_aload_n (q := 32) mX6_runs dX6_runs_31 rfl rfl ?_
        refine aw_get (t := 2) (ji := 1) (q := 35) mX6_runs dX6_runs_32 rfl f6_21 rfl kd_0 rfl (ly_0_1 hl) ?_
        refine aw_iload_n (q := 36) mX6_runs dX6_runs_35 rfl rfl ?_
        refine aw_iload_n (q := 37) mX6_runs dX6_runs_36 rfl rfl ?_
        refine aw_v2 (ci := 1) (q := 40) mX6_runs dX6_runs_37 rfl l6_190 k74_12 rfl kd_4 rfl rfl rfl (pX1_countRuns n μ1 m p s hl K.2.1 K.2.2.1 K.2.2.2.1 K.2.2.2.2.1 K.2.2.2.2.2 hpp.1 hpp.2 (by omega)) (kpure ?_)
        refine aw_v1 (ci := 6) (q := 43) mX6_runs dX6_runs_40 rfl l6_60 k74_82 rfl kd_0 rfl rfl rfl (pX6_give n μ1 _) (kset (fun μ2 h2 => ?_))
        refine aw_goto (q := 51) mX6_runs dX6_runs_43 (by decide) ?_
        refine aw_iret mX6_runs dX6_runs_51 ?_
        exact qc_end hO h45 hb K h2 (Or.inr ⟨h0, rfl, rfl⟩)
      · rw [if_neg hs] at h1; omega
  refine aw_iload_n (q := 8) mX6_runs dX6_runs_7 rfl rfl ?_
  refine aw_iconst (q := 9) mX6_runs dX6_runs_8 rfl rfl ?_
  refine aw_iconst (q := 10) mX6_runs dX6_runs_9 rfl rfl ?_
  refine aw_s3 (q := 13) mX6_runs dX6_runs_10 rfl lm6_29 l6_29 k74_84 rfl rfl rfl (pX6_within n μ1 s 0 1) (kint (fun y μ3 hy => ?_))
  obtain ⟨hm, hy⟩ := hy
  subst hm
  refine aw_if_eq (tgt := 24) (q := 16) mX6_runs dX6_runs_13 rfl (by decide) (fun c_13 => ?_) (fun c_13 => ?_)
  · refine aw_iconst (q := 25) mX6_runs dX6_runs_24 rfl rfl ?_
    exact E 2 (by unfold f_rn; rw [if_neg (by omega)])
  · refine aw_aload_n (q := 17) mX6_runs dX6_runs_16 rfl rfl ?_
    refine aw_iload_n (q := 18) mX6_runs dX6_runs_17 rfl rfl ?_
    refine aw_v1 (ci := 6) (q := 21) mX6_runs dX6_runs_18 rfl l6_184 k74_78 rfl kd_0 rfl rfl rfl (pX6_faultOfPage n μ3 m p K) (kpure ?_)
    refine aw_goto (q := 25) mX6_runs dX6_runs_21 (by decide) ?_
    exact E _ (by unfold f_rn; rw [if_pos (by omega)])
def f_br (μ : am_M) (k p : Int) (m : am_M) : Int := if f_nt k m = 0 then (if 0 ≤ p ∧ p < m 32 23 then (if μ 43 k ≠ -1 ∧ bF m p k ≤ bL μ m p k then 0 else 8) else 1) else f_nt k m
theorem f_br0 {μ : am_M} {k p : Int} {m : am_M} (h : f_br μ k p m = 0) : f_nt k m = 0 ∧ (0 ≤ p ∧ p < m 32 23) ∧ bH μ m p k := by
  unfold f_br at h
  by_cases h1 : f_nt k m = 0
  · rw [if_pos h1] at h
    by_cases h2 : 0 ≤ p ∧ p < m 32 23
    · rw [if_pos h2] at h
      by_cases h3 : μ 43 k ≠ -1 ∧ bF m p k ≤ bL μ m p k
      · exact ⟨h1, h2, h3⟩
      · rw [if_neg h3] at h; omega
    · rw [if_neg h2] at h; omega
  · rw [if_neg h1] at h; exact absurd h h1
theorem pX6_faultOfBracket (n : Nat) (μ m : am_M) (k a p : Int) (K : Kx n μ m) (ha : (a = nf k ∧ 0 ≤ k ∧ k < μ 32 8) ∨ (a = -1 ∧ ¬ (0 ≤ k ∧ k < μ 32 8))) : AC 79 [(2, 0), (2, a), (0, p)] n μ (PU (0, f_br μ k p m) n μ) := by
  have hl := K.1
  have l1 := K.2.2.2.2.2.1
  have e8 : m 32 8 = μ 32 8 := K.2.2.2.1.1 8 (by decide) (by decide)
  refine AC.of rfl ?_
  have N : ∀ L, f_nt k m ≠ 0 → L = [(2, 0), (2, a), (0, p), (0, f_nt k m)] → AW none 79 14 L [] n μ (PU (0, f_br μ k p m) n μ) := by
    intro L hf hL
    subst hL
    refine aw_iload_n (q := 15) mX6_faultOfBracket dX6_faultOfBracket_14 rfl rfl ?_
    refine aw_iret mX6_faultOfBracket dX6_faultOfBracket_15 ?_
    exact ⟨by unfold f_br; rw [if_neg hf], rfl, rfl⟩
  refine aw_aload_n (q := 1) mX6_faultOfBracket dX6_faultOfBracket_0 rfl rfl ?_
  refine aw_aload_n (q := 2) mX6_faultOfBracket dX6_faultOfBracket_1 rfl rfl ?_
  refine aw_v1 (ci := 6) (q := 5) mX6_faultOfBracket dX6_faultOfBracket_2 rfl l6_159 k79_77 rfl kd_0 rfl rfl rfl (pX6_faultOfNote n μ m k a K ha) (kpure ?_)
  refine aw_istore_n (q := 6) mX6_faultOfBracket dX6_faultOfBracket_5 rfl (by decide) rfl ?_
  refine aw_aload_n (q := 7) mX6_faultOfBracket dX6_faultOfBracket_6 rfl rfl ?_
  refine aw_ifnull (tgt := 14) (q := 10) mX6_faultOfBracket dX6_faultOfBracket_7 rfl (by decide) (fun c_7 => ?_) (fun c_7 => ?_)
  · refine N _ (fun z => ?_) rfl
    have := f_nt0 K.2.2.2.2.1 z
    rcases ha with ⟨ha, k0, k1⟩ | ⟨ha, hn⟩
    · unfold nf at ha; omega
    · omega
  · refine aw_iload_n (q := 11) mX6_faultOfBracket dX6_faultOfBracket_10 rfl rfl ?_
    refine aw_if_eq (tgt := 16) (q := 14) mX6_faultOfBracket dX6_faultOfBracket_11 rfl (by decide) (fun c_11 => ?_) (fun c_11 => ?_)
    · have h0 : f_nt k m = 0 := c_11
      have hkk := f_nt0 K.2.2.2.2.1 h0
      have hh := pX1_hasPage n μ p hl
      rw [l1] at hh
      refine aw_aload_n (q := 17) mX6_faultOfBracket dX6_faultOfBracket_16 rfl rfl ?_
      refine aw_get (t := 2) (ji := 1) (q := 20) mX6_faultOfBracket dX6_faultOfBracket_17 rfl f6_21 rfl kd_0 rfl (ly_0_1 hl) ?_
      refine aw_iload_n (q := 21) mX6_faultOfBracket dX6_faultOfBracket_20 rfl rfl ?_
      refine aw_v1 (ci := 1) (q := 24) mX6_faultOfBracket dX6_faultOfBracket_21 rfl l6_197 k79_9 rfl kd_4 rfl rfl rfl (hh) (kint (fun y μ3 hy => ?_))
      obtain ⟨hm, hy⟩ := hy
      subst hm
      refine aw_if_ne (tgt := 29) (q := 27) mX6_faultOfBracket dX6_faultOfBracket_24 rfl (by decide) (fun c_24 => ?_) (fun c_24 => ?_)
      · have hpp : 0 ≤ p ∧ p < m 32 23 := by omega
        rcases ha with ⟨ha, k0, k1⟩ | ⟨ha, hn⟩
        · have hbb := K.hb k0 k1 hpp.1 hpp.2
          obtain ⟨r1, -, -⟩ := K.nt k0 k1
          rw [← ha] at hbb r1
          have hk_a := r1.k
          refine aw_aload_n (q := 30) mX6_faultOfBracket dX6_faultOfBracket_29 rfl rfl ?_
          refine aw_get (t := 2) (ji := 1) (q := 33) mX6_faultOfBracket dX6_faultOfBracket_30 rfl f6_21 rfl kd_0 rfl (ly_0_1 hl) ?_
          refine aw_aload_n (q := 34) mX6_faultOfBracket dX6_faultOfBracket_33 rfl rfl ?_
          refine aw_iload_n (q := 35) mX6_faultOfBracket dX6_faultOfBracket_34 rfl rfl ?_
          refine aw_v2 (ci := 1) (q := 38) mX6_faultOfBracket dX6_faultOfBracket_35 rfl l6_200 k79_14 rfl kd_4 rfl rfl rfl (hbb) (kint (fun y' μ4 hy' => ?_))
          obtain ⟨hm, hy'⟩ := hy'
          subst hm
          refine aw_if_eq (tgt := 45) (q := 41) mX6_faultOfBracket dX6_faultOfBracket_38 rfl (by decide) (fun c_38 => ?_) (fun c_38 => ?_)
          · refine aw_bipush (q := 47) mX6_faultOfBracket dX6_faultOfBracket_45 rfl rfl ?_
            refine aw_iret mX6_faultOfBracket dX6_faultOfBracket_47 ?_
            refine ⟨?_, rfl, rfl⟩
            unfold f_br
            rw [if_pos h0, if_pos hpp, if_neg (fun z => by
              rcases hy' with ⟨y1, -⟩ | ⟨-, y2⟩
              · omega
              · exact y2 z)]
          · refine aw_iconst (q := 42) mX6_faultOfBracket dX6_faultOfBracket_41 rfl rfl ?_
            refine aw_goto (q := 47) mX6_faultOfBracket dX6_faultOfBracket_42 (by decide) ?_
            refine aw_iret mX6_faultOfBracket dX6_faultOfBracket_47 ?_
            refine ⟨?_, rfl, rfl⟩
            unfold f_br
            rw [if_pos h0, if_pos hpp, if_pos (by
              rcases hy' with ⟨-, y2⟩ | ⟨y1, -⟩
              · exact y2
              · exact absurd y1 c_38)]
        · exfalso; omega
      · refine aw_iconst (q := 28) mX6_faultOfBracket dX6_faultOfBracket_27 rfl rfl ?_
        refine aw_iret mX6_faultOfBracket dX6_faultOfBracket_28 ?_
        exact ⟨by unfold f_br; rw [if_pos h0, if_neg (by omega)], rfl, rfl⟩
    · exact N _ c_11 rfl

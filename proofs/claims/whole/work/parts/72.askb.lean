/-! the class: column, bracket -/
def vl_column (μ : am_M) (k p : Int) (m : am_M) (x : Int) : Prop := ∃ col : Int → Int, (∀ z ∈ md_hr m 0 (m 32 7).toNat, bH μ m p z → m 51 z = m 51 k → IsC μ m p col z) ∧ x = col k
theorem bH43 {μ μ1 m : am_M} (h : ∀ k, μ1 43 k = μ 43 k) : bL μ1 m = bL μ m ∧ bH μ1 m = bH μ m ∧ bM μ1 m = bM μ m ∧ IsC μ1 m = IsC μ m := by
  have e1 : bL μ1 m = bL μ m := by funext p k; unfold bL; rw [h]
  have e2 : bH μ1 m = bH μ m := by funext p k; unfold bH; rw [h, e1]
  have e3 : bM μ1 m = bM μ m := by funext p n k; unfold bM; rw [e1, e2]
  exact ⟨e1, e2, e3, by funext p c n; unfold IsC; rw [e3]⟩
theorem f_br43 {μ μ1 : am_M} (h : ∀ k, μ1 43 k = μ 43 k) (k p : Int) (m : am_M) : f_br μ1 k p m = f_br μ k p m := by
  unfold f_br; rw [h, (bH43 (m := m) h).1]
theorem qc_column {n : Nat} {μ : am_M} (k p : Int) (hJ : J n μ) : QC 71 [(0, k), (0, p)] n μ (Fq (f_br μ k p) (vl_column μ k p)) := by
  have hl := hJ.1
  refine AC.of rfl ?_
  refine aw_aload_n (q := 1) mX6_column dX6_column_0 rfl rfl ?_
  refine aw_get (t := 2) (ji := 1) (q := 4) mX6_column dX6_column_1 rfl f6_21 rfl kd_0 rfl (ly_0_1 hl) ?_
  refine aw_v0 (ci := 1) (q := 7) mX6_column dX6_column_4 rfl l6_141 k71_8 rfl kd_4 rfl rfl rfl (qc_refresh hJ) (kvoid (fun μ1 h1 => ?_))
  obtain ⟨hO, h45, m, hb, K⟩ := h1
  have hl := K.1
  have e8 : m 32 8 = μ1 32 8 := K.2.2.2.1.1 8 (by decide) (by decide)
  have e43 : ∀ z, μ1 43 z = μ 43 z := fun z => hO 43 z (by unfold Sk; omega)
  obtain ⟨q1, q2, q3, q4⟩ := bH43 (m := m) e43
  refine aw_aload_n (q := 8) mX6_column dX6_column_7 rfl rfl ?_
  refine aw_get (t := 2) (ji := 0) (q := 11) mX6_column dX6_column_8 rfl f6_12 rfl kd_0 rfl (ly_0_0 hl) ?_
  refine aw_iload_n (q := 12) mX6_column dX6_column_11 rfl rfl ?_
  refine aw_v1 (ci := 0) (q := 15) mX6_column dX6_column_12 rfl l6_85 k71_4 rfl kd_1 rfl rfl rfl (pX0_find n μ1 k hl K.2.1 K.2.2.1) (kref (fun a ha => ?_))
  have hfb := pX6_faultOfBracket n μ1 m k a p K ha
  rw [f_br43 e43] at hfb
  have hN : ∀ L, f_br μ k p m ≠ 0 → L = [(2, 0), (0, k), (0, p), (2, a), (0, f_br μ k p m)] → AW none 71 49 L [] n μ1 (fun r n1 μ1 => ∃ x, r = some (0, x) ∧ n1 = n ∧ Of Sq2 μ μ1 ∧ μ1 4 5 = 0 ∧ ∃ m, BE μ m ∧ MS m ∧ Cls μ1 m ∧ Fq (f_br μ k p) (vl_column μ k p) m x (μ1 0 2)) := by
    intro L hf hL
    subst hL
    refine aw_aload_n (q := 50) mX6_column dX6_column_49 rfl rfl ?_
    refine aw_iload (q := 52) mX6_column dX6_column_50 rfl rfl ?_
    refine aw_v1 (ci := 6) (q := 55) mX6_column dX6_column_52 rfl l6_50 k71_83 rfl kd_0 rfl rfl rfl (pX6_none n μ1 (f_br μ k p m)) (kset (fun μ2 h2 => ?_))
    refine aw_iret mX6_column dX6_column_55 ?_
    exact qc_end hO h45 hb K h2 (Or.inl ⟨hf, rfl, rfl⟩)
  refine aw_astore_n (q := 16) mX6_column dX6_column_15 rfl (by decide) rfl ?_
  refine aw_aload_n (q := 17) mX6_column dX6_column_16 rfl rfl ?_
  refine aw_aload_n (q := 18) mX6_column dX6_column_17 rfl rfl ?_
  refine aw_iload_n (q := 19) mX6_column dX6_column_18 rfl rfl ?_
  refine aw_v2 (ci := 6) (q := 22) mX6_column dX6_column_19 rfl l6_171 k71_79 rfl kd_0 rfl rfl rfl (hfb) (kpure ?_)
  refine aw_istore (q := 24) mX6_column dX6_column_22 rfl (by decide) rfl ?_
  refine aw_aload_n (q := 25) mX6_column dX6_column_24 rfl rfl ?_
  refine aw_ifnull (tgt := 49) (q := 28) mX6_column dX6_column_25 rfl (by decide) (fun c_25 => ?_) (fun c_25 => ?_)
  · refine hN _ (fun z => ?_) rfl
    have := f_nt0 K.2.2.2.2.1 (f_br0 z).1
    rcases ha with ⟨ha, k0, k1⟩ | ⟨ha, hn⟩
    · unfold nf at ha; omega
    · omega
  · refine aw_iload (q := 30) mX6_column dX6_column_28 rfl rfl ?_
    refine aw_if_ne (tgt := 49) (q := 33) mX6_column dX6_column_30 rfl (by decide) (fun c_30 => ?_) (fun c_30 => ?_)
    · exact hN _ c_30 rfl
    · have h0 : f_br μ k p m = 0 := Decidable.not_not.mp c_30
      obtain ⟨hf0, hpp, hbh⟩ := f_br0 h0
      obtain ⟨hkk, hsh, h22⟩ := f_nt0 K.2.2.2.2.1 hf0
      have hval := K.nn h22 hkk.1 hkk.2 hsh
      rcases ha with ⟨ha, k0, k1⟩ | ⟨ha, hn⟩
      · obtain ⟨r1, -, -⟩ := K.nt k0 k1
        have hcol := pX1_columnOf n μ1 m p k K h22 hpp.1 hpp.2 hval.1
        rw [← ha] at r1 hcol
        rw [q2, q4] at hcol
        have hk_a := r1.k
        refine aw_aload_n (q := 34) mX6_column dX6_column_33 rfl rfl ?_
        refine aw_aload_n (q := 35) mX6_column dX6_column_34 rfl rfl ?_
        refine aw_get (t := 2) (ji := 1) (q := 38) mX6_column dX6_column_35 rfl f6_21 rfl kd_0 rfl (ly_0_1 hl) ?_
        refine aw_aload_n (q := 39) mX6_column dX6_column_38 rfl rfl ?_
        refine aw_iload_n (q := 40) mX6_column dX6_column_39 rfl rfl ?_
        refine aw_v2 (ci := 1) (q := 43) mX6_column dX6_column_40 rfl l6_175 k71_19 rfl kd_4 rfl rfl rfl (hcol) (kint (fun x μ5 hx => ?_))
        obtain ⟨x1, x2, x3⟩ := hx
        have K5 := K.tr x1
        refine aw_v1 (ci := 6) (q := 46) mX6_column dX6_column_43 rfl l6_60 k71_82 rfl kd_0 rfl rfl rfl (pX6_give n μ5 x) (kset (fun μ2 h2 => ?_))
        refine aw_goto (q := 55) mX6_column dX6_column_46 (by decide) ?_
        refine aw_iret mX6_column dX6_column_55 ?_
        exact qc_end (hO.tr (x1.mono Sco_Sk)) (by rw [x1 4 5 (by unfold Sco; omega)]; exact h45) hb K5 h2 (Or.inr ⟨h0, ⟨fun z => μ5 (nf z) 15, x3, by rw [x2, ha]⟩, rfl⟩)
      · exfalso; omega
def vl_bracket (μ : am_M) (k p e : Int) (m : am_M) (x : Int) : Prop := x = if e = 0 then m 49 (bF m p k) else m 49 (bL μ m p k) + m 33 (bL μ m p k)
theorem qc_bracket {n : Nat} {μ : am_M} (k p e : Int) (he : e = 0 ∨ e = 1) (hJ : J n μ) : QC 72 [(0, k), (0, p), (0, e)] n μ (Fq (f_br μ k p) (vl_bracket μ k p e)) := by
  have hl := hJ.1
  refine AC.of rfl ?_
  refine aw_aload_n (q := 1) mX6_bracket dX6_bracket_0 rfl rfl ?_
  refine aw_get (t := 2) (ji := 1) (q := 4) mX6_bracket dX6_bracket_1 rfl f6_21 rfl kd_0 rfl (ly_0_1 hl) ?_
  refine aw_v0 (ci := 1) (q := 7) mX6_bracket dX6_bracket_4 rfl l6_141 k72_8 rfl kd_4 rfl rfl rfl (qc_refresh hJ) (kvoid (fun μ1 h1 => ?_))
  obtain ⟨hO, h45, m, hb, K⟩ := h1
  have hl := K.1
  have e8 : m 32 8 = μ1 32 8 := K.2.2.2.1.1 8 (by decide) (by decide)
  have e43 : ∀ z, μ1 43 z = μ 43 z := fun z => hO 43 z (by unfold Sk; omega)
  obtain ⟨q1, q2, q3, q4⟩ := bH43 (m := m) e43
  refine aw_aload_n (q := 8) mX6_bracket dX6_bracket_7 rfl rfl ?_
  refine aw_get (t := 2) (ji := 0) (q := 11) mX6_bracket dX6_bracket_8 rfl f6_12 rfl kd_0 rfl (ly_0_0 hl) ?_
  refine aw_iload_n (q := 12) mX6_bracket dX6_bracket_11 rfl rfl ?_
  refine aw_v1 (ci := 0) (q := 15) mX6_bracket dX6_bracket_12 rfl l6_85 k72_4 rfl kd_1 rfl rfl rfl (pX0_find n μ1 k hl K.2.1 K.2.2.1) (kref (fun a ha => ?_))
  have hfb := pX6_faultOfBracket n μ1 m k a p K ha
  rw [f_br43 e43] at hfb
  have hN : ∀ L, f_br μ k p m ≠ 0 → L = [(2, 0), (0, k), (0, p), (0, e), (2, a), (0, f_br μ k p m)] → AW none 72 36 L [] n μ1 (fun r n1 μ1 => ∃ x, r = some (0, x) ∧ n1 = n ∧ Of Sq2 μ μ1 ∧ μ1 4 5 = 0 ∧ ∃ m, BE μ m ∧ MS m ∧ Cls μ1 m ∧ Fq (f_br μ k p) (vl_bracket μ k p e) m x (μ1 0 2)) := by
    intro L hf hL
    subst hL
    refine aw_aload_n (q := 37) mX6_bracket dX6_bracket_36 rfl rfl ?_
    refine aw_iload (q := 39) mX6_bracket dX6_bracket_37 rfl rfl ?_
    refine aw_v1 (ci := 6) (q := 42) mX6_bracket dX6_bracket_39 rfl l6_50 k72_83 rfl kd_0 rfl rfl rfl (pX6_none n μ1 (f_br μ k p m)) (kset (fun μ2 h2 => ?_))
    refine aw_iret mX6_bracket dX6_bracket_42 ?_
    exact qc_end hO h45 hb K h2 (Or.inl ⟨hf, rfl, rfl⟩)
  refine aw_astore (q := 17) mX6_bracket dX6_bracket_15 rfl (by decide) rfl ?_
  refine aw_aload_n (q := 18) mX6_bracket dX6_bracket_17 rfl rfl ?_
  refine aw_aload (q := 20) mX6_bracket dX6_bracket_18 rfl rfl ?_
  refine aw_iload_n (q := 21) mX6_bracket dX6_bracket_20 rfl rfl ?_
  refine aw_v2 (ci := 6) (q := 24) mX6_bracket dX6_bracket_21 rfl l6_171 k72_79 rfl kd_0 rfl rfl rfl (hfb) (kpure ?_)
  refine aw_istore (q := 26) mX6_bracket dX6_bracket_24 rfl (by decide) rfl ?_
  refine aw_aload (q := 28) mX6_bracket dX6_bracket_26 rfl rfl ?_
  refine aw_ifnull (tgt := 36) (q := 31) mX6_bracket dX6_bracket_28 rfl (by decide) (fun c_28 => ?_) (fun c_28 => ?_)
  · refine hN _ (fun z => ?_) rfl
    have := f_nt0 K.2.2.2.2.1 (f_br0 z).1
    rcases ha with ⟨ha, k0, k1⟩ | ⟨ha, hn⟩
    · unfold nf at ha; omega
    · omega
  · refine aw_iload (q := 33) mX6_bracket dX6_bracket_31 rfl rfl ?_
    refine aw_if_eq (tgt := 43) (q := 36) mX6_bracket dX6_bracket_33 rfl (by decide) (fun c_33 => ?_) (fun c_33 => ?_)
    · have h0 : f_br μ k p m = 0 := c_33
      obtain ⟨hf0, hpp, hbh⟩ := f_br0 h0
      obtain ⟨hkk, hsh, h22⟩ := f_nt0 K.2.2.2.2.1 hf0
      rcases ha with ⟨ha, k0, k1⟩ | ⟨ha, hn⟩
      · obtain ⟨r1, -, -⟩ := K.nt k0 k1
        have hBm := K.2.1.tr K.2.2.2.1
        have hR := K.2.2.2.2.1.1.2.2.1 p hpp.1 hpp.2
        have hbh1 : bH μ1 m p k := by rw [q2]; exact hbh
        have hin : m 45 p ≤ bL μ1 m p k ∧ bL μ1 m p k < m 45 p + m 46 p := by
          have := hbh1.2
          unfold bF bL at *
          omega
        have htp := PgR_ls hBm hR hin.1 hin.2
        have hbe := pX1_bracketEnd n μ1 m k p K k0 k1 hpp.1 hpp.2 hbh1 (by omega)
        have hbb := pX1_bracketBegin n μ1 m k p K k0 k1 hpp.1 hpp.2 hbh1
        rw [q1] at hbe
        rw [← ha] at r1 hbe hbb
        have hk_a := r1.k
        refine aw_aload_n (q := 44) mX6_bracket dX6_bracket_43 rfl rfl ?_
        refine aw_iload_n (q := 45) mX6_bracket dX6_bracket_44 rfl rfl ?_
        refine aw_if_eq (tgt := 61) (q := 48) mX6_bracket dX6_bracket_45 rfl (by decide) (fun c_45 => ?_) (fun c_45 => ?_)
        · refine aw_aload_n (q := 62) mX6_bracket dX6_bracket_61 rfl rfl ?_
          refine aw_get (t := 2) (ji := 1) (q := 65) mX6_bracket dX6_bracket_62 rfl f6_21 rfl kd_0 rfl (ly_0_1 hl) ?_
          refine aw_aload (q := 67) mX6_bracket dX6_bracket_65 rfl rfl ?_
          refine aw_iload_n (q := 68) mX6_bracket dX6_bracket_67 rfl rfl ?_
          refine aw_v2 (ci := 1) (q := 71) mX6_bracket dX6_bracket_68 rfl l6_181 k72_15 rfl kd_4 rfl rfl rfl (hbb) (kpure ?_)
          refine aw_v1 (ci := 6) (q := 74) mX6_bracket dX6_bracket_71 rfl l6_60 k72_82 rfl kd_0 rfl rfl rfl (pX6_give n μ1 _) (kset (fun μ2 h2 => ?_))
          refine aw_iret mX6_bracket dX6_bracket_74 ?_
          exact qc_end hO h45 hb K h2 (Or.inr ⟨h0, by unfold vl_bracket; rw [if_pos c_45], rfl⟩)
        · refine aw_aload_n (q := 49) mX6_bracket dX6_bracket_48 rfl rfl ?_
          refine aw_get (t := 2) (ji := 1) (q := 52) mX6_bracket dX6_bracket_49 rfl f6_21 rfl kd_0 rfl (ly_0_1 hl) ?_
          refine aw_aload (q := 54) mX6_bracket dX6_bracket_52 rfl rfl ?_
          refine aw_iload_n (q := 55) mX6_bracket dX6_bracket_54 rfl rfl ?_
          refine aw_v2 (ci := 1) (q := 58) mX6_bracket dX6_bracket_55 rfl l6_178 k72_16 rfl kd_4 rfl rfl rfl (hbe) (kpure ?_)
          refine aw_goto (q := 71) mX6_bracket dX6_bracket_58 (by decide) ?_
          refine aw_v1 (ci := 6) (q := 74) mX6_bracket dX6_bracket_71 rfl l6_60 k72_82 rfl kd_0 rfl rfl rfl (pX6_give n μ1 _) (kset (fun μ2 h2 => ?_))
          refine aw_iret mX6_bracket dX6_bracket_74 ?_
          exact qc_end hO h45 hb K h2 (Or.inr ⟨h0, by unfold vl_bracket; rw [if_neg c_45], rfl⟩)
      · exfalso; omega
    · exact hN _ c_33 rfl

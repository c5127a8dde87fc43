/-! calls that tell of the book: change, cutting, show, keep -/
theorem tX6_change {n : Nat} {μ : am_M} (l h : Int) (hl : Lay n μ) (h12 : μ 1 2 ≤ 60) : AC 53 [(2, 0), (0, l), (0, h)] n μ (fun r n1 μ1 => ∃ x, r = some (0, x) ∧ n1 = n ∧ ((∃ w, w = (if 0 ≤ l ∧ l < μ 1 2 then 2 else 1) ∧ ¬ ((0 ≤ l ∧ l < μ 1 2) ∧ (1 ≤ h ∧ h ≤ 50)) ∧ x = 0 ∧ μ1 = am_set μ 0 2 w) ∨ ((0 ≤ l ∧ l < μ 1 2) ∧ (1 ≤ h ∧ h ≤ 50) ∧ x = 1 ∧ μ1 = am_set (am_set (am_set μ 2 l h) 4 5 1) 0 2 0))) := by
  refine AC.of rfl ?_
  refine aw_aload_n (q := 1) mX6_change dX6_change_0 rfl rfl ?_
  refine aw_get (t := 2) (ji := 0) (q := 4) mX6_change dX6_change_1 rfl f6_12 rfl kd_0 rfl (ly_0_0 hl) ?_
  refine aw_iload_n (q := 5) mX6_change dX6_change_4 rfl rfl ?_
  refine aw_v1 (ci := 0) (q := 8) mX6_change dX6_change_5 rfl l6_63 k53_3 rfl kd_1 rfl rfl rfl (pX0_hasLine n μ l) (kint (fun y μ3 hy => ?_))
  obtain ⟨hm, hy⟩ := hy
  subst hm
  refine aw_if_ne (tgt := 17) (q := 11) mX6_change dX6_change_8 rfl (by decide) (fun c_8 => ?_) (fun c_8 => ?_)
  · have hyy : 0 ≤ l ∧ l < μ3 1 2 := by omega
    refine aw_iload_n (q := 18) mX6_change dX6_change_17 rfl rfl ?_
    refine aw_s1 (q := 21) mX6_change dX6_change_18 rfl lm6_47 l6_47 k53_85 rfl rfl rfl (pX6_isLineHeight n μ3 h) (kint (fun y' μ4 hy' => ?_))
    obtain ⟨hm, hy'⟩ := hy'
    subst hm
    refine aw_if_ne (tgt := 30) (q := 24) mX6_change dX6_change_21 rfl (by decide) (fun c_21 => ?_) (fun c_21 => ?_)
    · refine aw_aload_n (q := 31) mX6_change dX6_change_30 rfl rfl ?_
      refine aw_get (t := 2) (ji := 0) (q := 34) mX6_change dX6_change_31 rfl f6_12 rfl kd_0 rfl (ly_0_0 hl) ?_
      refine aw_get (t := 2) (ji := 0) (q := 37) mX6_change dX6_change_34 rfl f6_66 rfl kd_1 rfl (ly_1_0 hl) ?_
      refine aw_iload_n (q := 38) mX6_change dX6_change_37 rfl rfl ?_
      refine aw_iload_n (q := 39) mX6_change dX6_change_38 rfl rfl ?_
      refine aw_iast (q := 40) mX6_change dX6_change_39 rfl kd_2 (by omega) (by omega) (fun μ_39 e_39 => ?_)
      have hl : Lay n μ_39 := by rw [e_39]; exact Lay.setA la_2 hl
      refine aw_aload_n (q := 41) mX6_change dX6_change_40 rfl rfl ?_
      refine aw_v0 (ci := 6) (q := 44) mX6_change dX6_change_41 rfl l6_43 k53_80 rfl kd_0 rfl rfl rfl (pX6_accept n μ_39 hl) (kset (fun μ2 h2 => ?_))
      refine aw_zret mX6_change dX6_change_44 (by first | exact Or.inl rfl | exact Or.inr rfl | assumption | omega) ?_
      exact ⟨_, rfl, rfl, Or.inr ⟨hyy, by omega, rfl, by rw [h2, e_39]⟩⟩
    · refine aw_aload_n (q := 25) mX6_change dX6_change_24 rfl rfl ?_
      refine aw_iconst (q := 26) mX6_change dX6_change_25 rfl rfl ?_
      refine aw_v1 (ci := 6) (q := 29) mX6_change dX6_change_26 rfl l6_33 k53_81 rfl kd_0 rfl rfl rfl (pX6_refuse n μ4 2) (kset (fun μ2 h2 => ?_))
      refine aw_zret mX6_change dX6_change_29 (by first | exact Or.inl rfl | exact Or.inr rfl | assumption | omega) ?_
      exact ⟨_, rfl, rfl, Or.inl ⟨2, by rw [if_pos hyy], by omega, rfl, h2⟩⟩
  · have hyn : ¬ (0 ≤ l ∧ l < μ3 1 2) := by omega
    refine aw_aload_n (q := 12) mX6_change dX6_change_11 rfl rfl ?_
    refine aw_iconst (q := 13) mX6_change dX6_change_12 rfl rfl ?_
    refine aw_v1 (ci := 6) (q := 16) mX6_change dX6_change_13 rfl l6_33 k53_81 rfl kd_0 rfl rfl rfl (pX6_refuse n μ3 1) (kset (fun μ2 h2 => ?_))
    refine aw_zret mX6_change dX6_change_16 (by first | exact Or.inl rfl | exact Or.inr rfl | assumption | omega) ?_
    exact ⟨_, rfl, rfl, Or.inl ⟨1, by rw [if_neg hyn], by omega, rfl, h2⟩⟩
theorem pr_change {n : Nat} {μ : am_M} (l h : Int) (hJ : J n μ) : Prx 53 96 [(0, l), (0, h)] n μ := by
  obtain ⟨hl, hB, hC, hD, hs, hM, hP⟩ := id hJ
  obtain ⟨b1, b2, b3, b4, b5, b6, b7, b8, b9⟩ := id hB
  obtain ⟨cn, ⟨c2, c3, c4, c5, c6, c7, c8⟩, ch, ck⟩ := id hC
  refine Prx.of (tX6_change l h hl (by omega)) ?_
  rintro x n1 μ1 ⟨rfl, h1⟩
  rw [c2] at h1
  refine AC.of rfl ?_
  rcases h1 with ⟨w, hw, hn, hx, e1⟩ | ⟨hll, hy, hx, e1⟩
  · have hl1 : Lay n1 μ1 := Lay_j hl (show Of (fun a j => a = 0 ∧ j = 2) μ μ1 by rw [e1]; exact Of.rf.set (by omega)) (fun a j z => by (repeat' (refine Or.elim z ?_ ?_ <;> clear z <;> intro z)) <;> first | (obtain ⟨rfl, _⟩ := z; first | exact Sj_0 (by omega) | exact Sj_1 (by omega) (by omega) | exact Sj_32 (by omega) | exact Sj_4 (by omega) (by omega) | exact Sj_2 _ | exact Sj_3 _ | exact Sj_33 (by omega) (by omega) | exact Sj_66 (by omega) (by omega) | exact Sj_w (by omega)) | (subst z; first | exact Sj_2 _ | exact Sj_3 _ | exact Sj_33 (by omega) (by omega) | exact Sj_66 (by omega) (by omega) | exact Sj_w (by omega)) | exact Sj_33 (by omega) (by omega) | exact Sj_66 (by omega) (by omega) | exact Sj_w (by omega))
    have R2 : ∀ L μ2, (0 ≤ l ∧ l < μ 32 7) → μ2 = am_set (am_set μ1 32 1 0) 32 0 0 → L = [(2, 32), (0, l), (0, h)] → AW none 96 35 L [] n1 μ2 (fun r' n2 μ2 => r' = some (0, x) ∧ J n2 μ2) := by
      intro L μ2 hh e2 hL
      subst hL
      refine aw_aload_n (q := 36) mX7_change dX7_change_35 rfl rfl ?_
      refine aw_iconst (q := 37) mX7_change dX7_change_36 rfl rfl ?_
      refine aw_v1 (ci := 7) (q := 40) mX7_change dX7_change_37 rfl l7_139 k96_90 rfl kd_32 rfl rfl rfl (pX7_no n1 μ2 2) (kset (fun μ3 h3 => ?_))
      refine aw_zret mX7_change dX7_change_40 (by first | exact Or.inl rfl | exact Or.inr rfl | assumption | omega) ?_
      rw [if_pos hh] at hw
      exact ⟨by rw [hx], hJ.ref (w := w) (by rw [h3, e2, e1, hw])⟩
    have hl := hl1
    refine aw_aload_n (q := 1) mX7_change dX7_change_0 rfl rfl ?_
    refine aw_iconst (q := 2) mX7_change dX7_change_1 rfl rfl ?_
    refine aw_put (t := 0) (ji := 1) (q := 5) mX7_change dX7_change_2 rfl f7_123 rfl kd_32 rfl (Or.inl rfl) (Or.inl (by decide)) (fun μ_2 e_2 => ?_)
    have hl : Lay n1 μ_2 := by rw [e_2]; exact Lay.setF lf_32_1 hl
    refine aw_aload_n (q := 6) mX7_change dX7_change_5 rfl rfl ?_
    refine aw_iconst (q := 7) mX7_change dX7_change_6 rfl rfl ?_
    refine aw_put (t := 0) (ji := 0) (q := 10) mX7_change dX7_change_7 rfl f7_126 rfl kd_32 rfl (Or.inl rfl) (Or.inl (by decide)) (fun μ_7 e_7 => ?_)
    have hl : Lay n1 μ_7 := by rw [e_7]; exact Lay.setF lf_32_0 hl
    refine aw_aload_n (q := 11) mX7_change dX7_change_10 rfl rfl ?_
    refine aw_iload_n (q := 12) mX7_change dX7_change_11 rfl rfl ?_
    have e7 : μ_7 32 7 = μ 32 7 := by rw [e_7, e_2, e1]; repeat (first | rw [am_sn (Or.inl (by decide))] | rw [am_sn (Or.inr (by decide))] | rw [am_ss])
    have hil := pX7_isLineB n1 μ_7 l hl
    rw [e7] at hil
    refine aw_v1 (ci := 7) (q := 15) mX7_change dX7_change_12 rfl l7_151 k96_92 rfl kd_32 rfl rfl rfl (hil) (kint (fun y μ3 hy => ?_))
    obtain ⟨hm, hy⟩ := hy
    refine aw_if_ne (tgt := 24) (q := 18) mX7_change dX7_change_15 rfl (by decide) (fun c_15 => ?_) (fun c_15 => ?_)
    · refine aw_iload_n (q := 25) mX7_change dX7_change_24 rfl rfl ?_
      refine aw_iconst (q := 26) mX7_change dX7_change_25 rfl rfl ?_
      refine aw_icmp_lt (tgt := 35) (q := 29) mX7_change dX7_change_26 rfl (by decide) (fun c_26 => ?_) (fun c_26 => ?_)
      · exact R2 _ μ3 (by omega) (by rw [hm, e_7, e_2]) rfl
      · refine aw_iload_n (q := 30) mX7_change dX7_change_29 rfl rfl ?_
        refine aw_bipush (q := 32) mX7_change dX7_change_30 rfl rfl ?_
        refine aw_icmp_le (tgt := 41) (q := 35) mX7_change dX7_change_32 rfl (by decide) (fun c_32 => ?_) (fun c_32 => ?_)
        · exact absurd hn (by omega)
        · exact R2 _ μ3 (by omega) (by rw [hm, e_7, e_2]) rfl
    · refine aw_aload_n (q := 19) mX7_change dX7_change_18 rfl rfl ?_
      refine aw_iconst (q := 20) mX7_change dX7_change_19 rfl rfl ?_
      refine aw_v1 (ci := 7) (q := 23) mX7_change dX7_change_20 rfl l7_139 k96_90 rfl kd_32 rfl rfl rfl (pX7_no n1 μ3 1) (kset (fun μ4 h4 => ?_))
      refine aw_zret mX7_change dX7_change_23 (by first | exact Or.inl rfl | exact Or.inr rfl | assumption | omega) ?_
      rw [if_neg (by omega)] at hw
      exact ⟨by rw [hx], hJ.ref (w := w) (by rw [h4, hm, e_7, e_2, e1, hw])⟩
  · have hl1 : Lay n1 μ1 := Lay_j hl (show Of (fun a j => (a = 0 ∧ j = 2) ∨ a = 2 ∨ (a = 4 ∧ j = 5)) μ μ1 by rw [e1]; exact ((Of.rf.set (by omega)).set (by omega)).set (by omega)) (fun a j z => by (repeat' (refine Or.elim z ?_ ?_ <;> clear z <;> intro z)) <;> first | (obtain ⟨rfl, _⟩ := z; first | exact Sj_0 (by omega) | exact Sj_1 (by omega) (by omega) | exact Sj_32 (by omega) | exact Sj_4 (by omega) (by omega) | exact Sj_2 _ | exact Sj_3 _ | exact Sj_33 (by omega) (by omega) | exact Sj_66 (by omega) (by omega) | exact Sj_w (by omega)) | (subst z; first | exact Sj_2 _ | exact Sj_3 _ | exact Sj_33 (by omega) (by omega) | exact Sj_66 (by omega) (by omega) | exact Sj_w (by omega)) | exact Sj_33 (by omega) (by omega) | exact Sj_66 (by omega) (by omega) | exact Sj_w (by omega))
    have hl := hl1
    refine aw_aload_n (q := 1) mX7_change dX7_change_0 rfl rfl ?_
    refine aw_iconst (q := 2) mX7_change dX7_change_1 rfl rfl ?_
    refine aw_put (t := 0) (ji := 1) (q := 5) mX7_change dX7_change_2 rfl f7_123 rfl kd_32 rfl (Or.inl rfl) (Or.inl (by decide)) (fun μ_2 e_2 => ?_)
    have hl : Lay n1 μ_2 := by rw [e_2]; exact Lay.setF lf_32_1 hl
    refine aw_aload_n (q := 6) mX7_change dX7_change_5 rfl rfl ?_
    refine aw_iconst (q := 7) mX7_change dX7_change_6 rfl rfl ?_
    refine aw_put (t := 0) (ji := 0) (q := 10) mX7_change dX7_change_7 rfl f7_126 rfl kd_32 rfl (Or.inl rfl) (Or.inl (by decide)) (fun μ_7 e_7 => ?_)
    have hl : Lay n1 μ_7 := by rw [e_7]; exact Lay.setF lf_32_0 hl
    refine aw_aload_n (q := 11) mX7_change dX7_change_10 rfl rfl ?_
    refine aw_iload_n (q := 12) mX7_change dX7_change_11 rfl rfl ?_
    have e7 : μ_7 32 7 = μ 32 7 := by rw [e_7, e_2, e1]; repeat (first | rw [am_sn (Or.inl (by decide))] | rw [am_sn (Or.inr (by decide))] | rw [am_ss])
    have hil := pX7_isLineB n1 μ_7 l hl
    rw [e7] at hil
    refine aw_v1 (ci := 7) (q := 15) mX7_change dX7_change_12 rfl l7_151 k96_92 rfl kd_32 rfl rfl rfl (hil) (kint (fun y μ3 hy' => ?_))
    obtain ⟨hm, hy'⟩ := hy'
    subst hm
    refine aw_if_ne (tgt := 24) (q := 18) mX7_change dX7_change_15 rfl (by decide) (fun c_15 => ?_) (fun c_15 => ?_)
    · refine aw_iload_n (q := 25) mX7_change dX7_change_24 rfl rfl ?_
      refine aw_iconst (q := 26) mX7_change dX7_change_25 rfl rfl ?_
      refine aw_icmp_lt (tgt := 35) (q := 29) mX7_change dX7_change_26 rfl (by decide) (fun c_26 => ?_) (fun c_26 => ?_)
      · exact absurd c_26 (by omega)
      · refine aw_iload_n (q := 30) mX7_change dX7_change_29 rfl rfl ?_
        refine aw_bipush (q := 32) mX7_change dX7_change_30 rfl rfl ?_
        refine aw_icmp_le (tgt := 41) (q := 35) mX7_change dX7_change_32 rfl (by decide) (fun c_32 => ?_) (fun c_32 => ?_)
        · refine aw_aload_n (q := 42) mX7_change dX7_change_41 rfl rfl ?_
          refine aw_get (t := 2) (ji := 9) (q := 45) mX7_change dX7_change_42 rfl f7_22 rfl kd_32 rfl (ly_32_9 hl) ?_
          refine aw_iload_n (q := 46) mX7_change dX7_change_45 rfl rfl ?_
          refine aw_iload_n (q := 47) mX7_change dX7_change_46 rfl rfl ?_
          refine aw_iast (q := 48) mX7_change dX7_change_47 rfl kd_33 (by omega) (by omega) (fun μ_47 e_47 => ?_)
          have hl : Lay n1 μ_47 := by rw [e_47]; exact Lay.setA la_33 hl
          refine aw_aload_n (q := 49) mX7_change dX7_change_48 rfl rfl ?_
          refine aw_v0 (ci := 7) (q := 52) mX7_change dX7_change_49 rfl l7_143 k96_91 rfl kd_32 rfl rfl rfl (pX7_done n1 μ_47) (kset (fun μ4 h4 => ?_))
          refine aw_zret mX7_change dX7_change_52 (by first | exact Or.inl rfl | exact Or.inr rfl | assumption | omega) ?_
          have hO : Of (fun a j => (a = 2 ∧ j = l) ∨ (a = 33 ∧ j = l) ∨ (a = 4 ∧ j = 5) ∨ (a = 0 ∧ j = 2) ∨ (a = 32 ∧ (j ≤ 1 ∨ j = 21))) μ μ4 := by
            rw [h4, e_47, e_7, e_2, e1]
            exact ((((((Of.rf.set (by omega)).set (by omega)).set (by omega)).set (by omega)).set (by omega)).set (by omega)).set (by omega)
          have v45 : μ4 4 5 = 1 := by rw [h4, e_47, e_7, e_2, e1]; repeat (first | rw [am_sn (Or.inl (by decide))] | rw [am_sn (Or.inr (by decide))] | rw [am_ss])
          have v21 : μ4 32 21 = 0 := by rw [h4]; repeat (first | rw [am_sn (Or.inl (by decide))] | rw [am_sn (Or.inr (by decide))] | rw [am_ss])
          have vs : μ4 0 2 = μ4 32 0 := by rw [h4, e_47, e_7, e_2, e1]; repeat (first | rw [am_sn (Or.inl (by decide))] | rw [am_sn (Or.inr (by decide))] | rw [am_ss])
          have v33 : μ4 33 l = h := by rw [h4, e_47]; repeat (first | rw [am_sn (Or.inl (by decide))] | rw [am_sn (Or.inr (by decide))] | rw [am_ss])
          have v2 : μ4 2 l = h := by rw [h4, e_47, e_7, e_2, e1]; repeat (first | rw [am_sn (Or.inl (by decide))] | rw [am_sn (Or.inr (by decide))] | rw [am_ss])
          refine ⟨by rw [hx], hJ.bk (Lay_j (hJ.1) hO (fun a j z => by (repeat' (refine Or.elim z ?_ ?_ <;> clear z <;> intro z)) <;> first | (obtain ⟨rfl, _⟩ := z; first | exact Sj_0 (by omega) | exact Sj_1 (by omega) (by omega) | exact Sj_32 (by omega) | exact Sj_4 (by omega) (by omega) | exact Sj_2 _ | exact Sj_3 _ | exact Sj_33 (by omega) (by omega) | exact Sj_66 (by omega) (by omega) | exact Sj_w (by omega)) | (subst z; first | exact Sj_2 _ | exact Sj_3 _ | exact Sj_33 (by omega) (by omega) | exact Sj_66 (by omega) (by omega) | exact Sj_w (by omega)) | exact Sj_33 (by omega) (by omega) | exact Sj_66 (by omega) (by omega) | exact Sj_w (by omega))) ⟨by rw [hO 32 2 (by omega)]; exact b1, by rw [hO 32 3 (by omega)]; exact b2, by rw [hO 32 4 (by omega)]; exact b3, by rw [hO 32 5 (by omega)]; exact b4, by rw [hO 32 6 (by omega)]; exact b5, by rw [hO 32 7 (by omega)]; omega, hO 32 8 (by omega)⟩ ⟨by rw [hO 1 2 (by omega), hO 32 7 (by omega)]; exact c2, by rw [hO 1 3 (by omega), hO 32 8 (by omega)]; exact c3, by rw [hO 1 4 (by omega), hO 32 2 (by omega)]; exact c4, by rw [hO 1 5 (by omega), hO 32 3 (by omega)]; exact c5, by rw [hO 1 6 (by omega), hO 32 4 (by omega)]; exact c6, by rw [hO 1 7 (by omega), hO 32 5 (by omega)]; exact c7, by rw [hO 1 8 (by omega), hO 32 6 (by omega)]; exact c8⟩ (fun l' l0 l1 => ?_) (fun j => hO 3 j (by omega)) (fun a j _ _ => hO a j (by omega)) (fun a j _ => hO a j (by omega)) vs (J.unset v21) (J.stale v45)⟩
          rw [hO 32 7 (by omega)] at l1
          by_cases hle : l' = l
          · rw [hle, v33, v2]; exact ⟨hy, rfl⟩
          · rw [hO 33 l' (by omega), hO 2 l' (by omega)]
            exact ⟨b8 l' l0 l1, ch l' l0 l1⟩
        · exact absurd c_32 (by omega)
    · exfalso; omega
theorem tX6_cutting {n : Nat} {μ : am_M} (v : Int) (hl : Lay n μ) : AC 57 [(2, 0), (0, v)] n μ (fun r n1 μ1 => ∃ x, r = some (0, x) ∧ n1 = n ∧ ((¬ (0 ≤ v ∧ v ≤ 1000) ∧ x = 0 ∧ μ1 = am_set μ 0 2 2) ∨ ((0 ≤ v ∧ v ≤ 1000) ∧ x = 1 ∧ μ1 = am_set (am_set (am_set μ 1 6 v) 4 5 1) 0 2 0))) := by
  refine AC.of rfl ?_
  refine aw_iload_n (q := 1) mX6_cutting dX6_cutting_0 rfl rfl ?_
  refine aw_iconst (q := 2) mX6_cutting dX6_cutting_1 rfl rfl ?_
  refine aw_sipush (q := 5) mX6_cutting dX6_cutting_2 rfl rfl ?_
  refine aw_s3 (q := 8) mX6_cutting dX6_cutting_5 rfl lm6_29 l6_29 k57_84 rfl rfl rfl (pX6_within n μ v 0 1000) (kint (fun y μ3 hy => ?_))
  obtain ⟨hm, hy⟩ := hy
  subst hm
  refine aw_if_ne (tgt := 17) (q := 11) mX6_cutting dX6_cutting_8 rfl (by decide) (fun c_8 => ?_) (fun c_8 => ?_)
  · refine aw_aload_n (q := 18) mX6_cutting dX6_cutting_17 rfl rfl ?_
    refine aw_get (t := 2) (ji := 0) (q := 21) mX6_cutting dX6_cutting_18 rfl f6_12 rfl kd_0 rfl (ly_0_0 hl) ?_
    refine aw_iload_n (q := 22) mX6_cutting dX6_cutting_21 rfl rfl ?_
    refine aw_put (t := 0) (ji := 6) (q := 25) mX6_cutting dX6_cutting_22 rfl f6_106 rfl kd_1 rfl (Or.inl rfl) (Or.inl (by decide)) (fun μ_22 e_22 => ?_)
    have hl : Lay n μ_22 := by rw [e_22]; exact Lay.setF lf_1_6 hl
    refine aw_aload_n (q := 26) mX6_cutting dX6_cutting_25 rfl rfl ?_
    refine aw_v0 (ci := 6) (q := 29) mX6_cutting dX6_cutting_26 rfl l6_43 k57_80 rfl kd_0 rfl rfl rfl (pX6_accept n μ_22 hl) (kset (fun μ2 h2 => ?_))
    refine aw_zret mX6_cutting dX6_cutting_29 (by first | exact Or.inl rfl | exact Or.inr rfl | assumption | omega) ?_
    exact ⟨_, rfl, rfl, Or.inr ⟨by omega, rfl, by rw [h2, e_22]⟩⟩
  · refine aw_aload_n (q := 12) mX6_cutting dX6_cutting_11 rfl rfl ?_
    refine aw_iconst (q := 13) mX6_cutting dX6_cutting_12 rfl rfl ?_
    refine aw_v1 (ci := 6) (q := 16) mX6_cutting dX6_cutting_13 rfl l6_33 k57_81 rfl kd_0 rfl rfl rfl (pX6_refuse n μ3 2) (kset (fun μ2 h2 => ?_))
    refine aw_zret mX6_cutting dX6_cutting_16 (by first | exact Or.inl rfl | exact Or.inr rfl | assumption | omega) ?_
    exact ⟨_, rfl, rfl, Or.inl ⟨by omega, rfl, h2⟩⟩
theorem pr_cutting {n : Nat} {μ : am_M} (v : Int) (hJ : J n μ) : Prx 57 100 [(0, v)] n μ := by
  obtain ⟨hl, hB, hC, hD, hs, hM, hP⟩ := id hJ
  obtain ⟨b1, b2, b3, b4, b5, b6, b7, b8, b9⟩ := id hB
  obtain ⟨cn, ⟨c2, c3, c4, c5, c6, c7, c8⟩, ch, ck⟩ := id hC
  refine Prx.of (tX6_cutting v hl) ?_
  rintro x n1 μ1 ⟨rfl, h1⟩
  refine AC.of rfl ?_
  rcases h1 with ⟨hn, hx, e1⟩ | ⟨hy, hx, e1⟩
  · have R : ∀ L μ2, μ2 = am_set (am_set μ1 32 1 0) 32 0 0 → L = [(2, 32), (0, v)] → AW none 100 21 L [] n1 μ2 (fun r' n2 μ2 => r' = some (0, x) ∧ J n2 μ2) := by
      intro L μ2 e2 hL
      subst hL
      refine aw_aload_n (q := 22) mX7_cutting dX7_cutting_21 rfl rfl ?_
      refine aw_iconst (q := 23) mX7_cutting dX7_cutting_22 rfl rfl ?_
      refine aw_v1 (ci := 7) (q := 26) mX7_cutting dX7_cutting_23 rfl l7_139 k100_90 rfl kd_32 rfl rfl rfl (pX7_no n1 μ2 2) (kset (fun μ3 h3 => ?_))
      refine aw_zret mX7_cutting dX7_cutting_26 (by first | exact Or.inl rfl | exact Or.inr rfl | assumption | omega) ?_
      exact ⟨by rw [hx], hJ.ref (w := 2) (by rw [h3, e2, e1])⟩
    refine aw_aload_n (q := 1) mX7_cutting dX7_cutting_0 rfl rfl ?_
    refine aw_iconst (q := 2) mX7_cutting dX7_cutting_1 rfl rfl ?_
    refine aw_put (t := 0) (ji := 1) (q := 5) mX7_cutting dX7_cutting_2 rfl f7_123 rfl kd_32 rfl (Or.inl rfl) (Or.inl (by decide)) (fun μ_2 e_2 => ?_)
    refine aw_aload_n (q := 6) mX7_cutting dX7_cutting_5 rfl rfl ?_
    refine aw_iconst (q := 7) mX7_cutting dX7_cutting_6 rfl rfl ?_
    refine aw_put (t := 0) (ji := 0) (q := 10) mX7_cutting dX7_cutting_7 rfl f7_126 rfl kd_32 rfl (Or.inl rfl) (Or.inl (by decide)) (fun μ_7 e_7 => ?_)
    refine aw_iload_n (q := 11) mX7_cutting dX7_cutting_10 rfl rfl ?_
    refine aw_if_lt (tgt := 21) (q := 14) mX7_cutting dX7_cutting_11 rfl (by decide) (fun c_11 => ?_) (fun c_11 => ?_)
    · exact R _ μ_7 (by rw [e_7, e_2]) rfl
    · refine aw_iload_n (q := 15) mX7_cutting dX7_cutting_14 rfl rfl ?_
      refine aw_sipush (q := 18) mX7_cutting dX7_cutting_15 rfl rfl ?_
      refine aw_icmp_le (tgt := 27) (q := 21) mX7_cutting dX7_cutting_18 rfl (by decide) (fun c_18 => ?_) (fun c_18 => ?_)
      · exact absurd hn (by omega)
      · exact R _ μ_7 (by rw [e_7, e_2]) rfl
  · refine aw_aload_n (q := 1) mX7_cutting dX7_cutting_0 rfl rfl ?_
    refine aw_iconst (q := 2) mX7_cutting dX7_cutting_1 rfl rfl ?_
    refine aw_put (t := 0) (ji := 1) (q := 5) mX7_cutting dX7_cutting_2 rfl f7_123 rfl kd_32 rfl (Or.inl rfl) (Or.inl (by decide)) (fun μ_2 e_2 => ?_)
    refine aw_aload_n (q := 6) mX7_cutting dX7_cutting_5 rfl rfl ?_
    refine aw_iconst (q := 7) mX7_cutting dX7_cutting_6 rfl rfl ?_
    refine aw_put (t := 0) (ji := 0) (q := 10) mX7_cutting dX7_cutting_7 rfl f7_126 rfl kd_32 rfl (Or.inl rfl) (Or.inl (by decide)) (fun μ_7 e_7 => ?_)
    refine aw_iload_n (q := 11) mX7_cutting dX7_cutting_10 rfl rfl ?_
    refine aw_if_lt (tgt := 21) (q := 14) mX7_cutting dX7_cutting_11 rfl (by decide) (fun c_11 => ?_) (fun c_11 => ?_)
    · exact absurd c_11 (by omega)
    · refine aw_iload_n (q := 15) mX7_cutting dX7_cutting_14 rfl rfl ?_
      refine aw_sipush (q := 18) mX7_cutting dX7_cutting_15 rfl rfl ?_
      refine aw_icmp_le (tgt := 27) (q := 21) mX7_cutting dX7_cutting_18 rfl (by decide) (fun c_18 => ?_) (fun c_18 => ?_)
      · refine aw_aload_n (q := 28) mX7_cutting dX7_cutting_27 rfl rfl ?_
        refine aw_iload_n (q := 29) mX7_cutting dX7_cutting_28 rfl rfl ?_
        refine aw_put (t := 0) (ji := 4) (q := 32) mX7_cutting dX7_cutting_29 rfl f7_16 rfl kd_32 rfl (Or.inl rfl) (Or.inl (by decide)) (fun μ_29 e_29 => ?_)
        refine aw_aload_n (q := 33) mX7_cutting dX7_cutting_32 rfl rfl ?_
        refine aw_v0 (ci := 7) (q := 36) mX7_cutting dX7_cutting_33 rfl l7_143 k100_91 rfl kd_32 rfl rfl rfl (pX7_done n1 μ_29) (kset (fun μ4 h4 => ?_))
        refine aw_zret mX7_cutting dX7_cutting_36 (by first | exact Or.inl rfl | exact Or.inr rfl | assumption | omega) ?_
        have hO : Of (fun a j => (a = 1 ∧ j = 6) ∨ (a = 4 ∧ j = 5) ∨ (a = 0 ∧ j = 2) ∨ (a = 32 ∧ (j ≤ 1 ∨ j = 4 ∨ j = 21))) μ μ4 := by
          rw [h4, e_29, e_7, e_2, e1]
          exact ((((((Of.rf.set (by omega)).set (by omega)).set (by omega)).set (by omega)).set (by omega)).set (by omega)).set (by omega)
        have v45 : μ4 4 5 = 1 := by rw [h4, e_29, e_7, e_2, e1]; repeat (first | rw [am_sn (Or.inl (by decide))] | rw [am_sn (Or.inr (by decide))] | rw [am_ss])
        have v21 : μ4 32 21 = 0 := by rw [h4]; repeat (first | rw [am_sn (Or.inl (by decide))] | rw [am_sn (Or.inr (by decide))] | rw [am_ss])
        have vs : μ4 0 2 = μ4 32 0 := by rw [h4, e_29, e_7, e_2, e1]; repeat (first | rw [am_sn (Or.inl (by decide))] | rw [am_sn (Or.inr (by decide))] | rw [am_ss])
        have vm : μ4 32 4 = v := by rw [h4, e_29]; repeat (first | rw [am_sn (Or.inl (by decide))] | rw [am_sn (Or.inr (by decide))] | rw [am_ss])
        have vc : μ4 1 6 = v := by rw [h4, e_29, e_7, e_2, e1]; repeat (first | rw [am_sn (Or.inl (by decide))] | rw [am_sn (Or.inr (by decide))] | rw [am_ss])
        refine ⟨by rw [hx], hJ.bk (Lay_j (hJ.1) hO (fun a j z => by (repeat' (refine Or.elim z ?_ ?_ <;> clear z <;> intro z)) <;> first | (obtain ⟨rfl, _⟩ := z; first | exact Sj_0 (by omega) | exact Sj_1 (by omega) (by omega) | exact Sj_32 (by omega) | exact Sj_4 (by omega) (by omega) | exact Sj_2 _ | exact Sj_3 _ | exact Sj_33 (by omega) (by omega) | exact Sj_66 (by omega) (by omega) | exact Sj_w (by omega)) | (subst z; first | exact Sj_2 _ | exact Sj_3 _ | exact Sj_33 (by omega) (by omega) | exact Sj_66 (by omega) (by omega) | exact Sj_w (by omega)) | exact Sj_33 (by omega) (by omega) | exact Sj_66 (by omega) (by omega) | exact Sj_w (by omega))) ⟨by rw [hO 32 2 (by omega)]; exact b1, by rw [hO 32 3 (by omega)]; exact b2, by omega, by rw [hO 32 5 (by omega)]; exact b4, by rw [hO 32 6 (by omega)]; exact b5, by rw [hO 32 7 (by omega)]; omega, hO 32 8 (by omega)⟩ ⟨by rw [hO 1 2 (by omega), hO 32 7 (by omega)]; exact c2, by rw [hO 1 3 (by omega), hO 32 8 (by omega)]; exact c3, by rw [hO 1 4 (by omega), hO 32 2 (by omega)]; exact c4, by rw [hO 1 5 (by omega), hO 32 3 (by omega)]; exact c5, by rw [vc, vm], by rw [hO 1 7 (by omega), hO 32 5 (by omega)]; exact c7, by rw [hO 1 8 (by omega), hO 32 6 (by omega)]; exact c8⟩ (fun l' l0 l1 => by rw [hO 32 7 (by omega)] at l1; rw [hO 33 l' (by omega), hO 2 l' (by omega)]; exact ⟨b8 l' l0 l1, ch l' l0 l1⟩) (fun j => hO 3 j (by omega)) (fun a j _ _ => hO a j (by omega)) (fun a j _ => hO a j (by omega)) vs (J.unset v21) (J.stale v45)⟩
      · exact absurd c_18 (by omega)
theorem tX6_show {n : Nat} {μ : am_M} (v : Int) (hl : Lay n μ) : AC 62 [(2, 0), (0, v)] n μ (fun r n1 μ1 => ∃ x, r = some (0, x) ∧ n1 = n ∧ ((¬ (0 ≤ v ∧ v ≤ 15) ∧ x = 0 ∧ μ1 = am_set μ 0 2 2) ∨ ((0 ≤ v ∧ v ≤ 15) ∧ x = 1 ∧ μ1 = am_set (am_set (am_set μ 1 7 v) 4 5 1) 0 2 0))) := by
  refine AC.of rfl ?_
  refine aw_iload_n (q := 1) mX6_show dX6_show_0 rfl rfl ?_
  refine aw_iconst (q := 2) mX6_show dX6_show_1 rfl rfl ?_
  refine aw_bipush (q := 4) mX6_show dX6_show_2 rfl rfl ?_
  refine aw_s3 (q := 7) mX6_show dX6_show_4 rfl lm6_29 l6_29 k62_84 rfl rfl rfl (pX6_within n μ v 0 15) (kint (fun y μ3 hy => ?_))
  obtain ⟨hm, hy⟩ := hy
  subst hm
  refine aw_if_ne (tgt := 16) (q := 10) mX6_show dX6_show_7 rfl (by decide) (fun c_7 => ?_) (fun c_7 => ?_)
  · refine aw_aload_n (q := 17) mX6_show dX6_show_16 rfl rfl ?_
    refine aw_get (t := 2) (ji := 0) (q := 20) mX6_show dX6_show_17 rfl f6_12 rfl kd_0 rfl (ly_0_0 hl) ?_
    refine aw_iload_n (q := 21) mX6_show dX6_show_20 rfl rfl ?_
    refine aw_put (t := 0) (ji := 7) (q := 24) mX6_show dX6_show_21 rfl f6_121 rfl kd_1 rfl (Or.inl rfl) (Or.inl (by decide)) (fun μ_21 e_21 => ?_)
    have hl : Lay n μ_21 := by rw [e_21]; exact Lay.setF lf_1_7 hl
    refine aw_aload_n (q := 25) mX6_show dX6_show_24 rfl rfl ?_
    refine aw_v0 (ci := 6) (q := 28) mX6_show dX6_show_25 rfl l6_43 k62_80 rfl kd_0 rfl rfl rfl (pX6_accept n μ_21 hl) (kset (fun μ2 h2 => ?_))
    refine aw_zret mX6_show dX6_show_28 (by first | exact Or.inl rfl | exact Or.inr rfl | assumption | omega) ?_
    exact ⟨_, rfl, rfl, Or.inr ⟨by omega, rfl, by rw [h2, e_21]⟩⟩
  · refine aw_aload_n (q := 11) mX6_show dX6_show_10 rfl rfl ?_
    refine aw_iconst (q := 12) mX6_show dX6_show_11 rfl rfl ?_
    refine aw_v1 (ci := 6) (q := 15) mX6_show dX6_show_12 rfl l6_33 k62_81 rfl kd_0 rfl rfl rfl (pX6_refuse n μ3 2) (kset (fun μ2 h2 => ?_))
    refine aw_zret mX6_show dX6_show_15 (by first | exact Or.inl rfl | exact Or.inr rfl | assumption | omega) ?_
    exact ⟨_, rfl, rfl, Or.inl ⟨by omega, rfl, h2⟩⟩
theorem pr_show {n : Nat} {μ : am_M} (v : Int) (hJ : J n μ) : Prx 62 105 [(0, v)] n μ := by
  obtain ⟨hl, hB, hC, hD, hs, hM, hP⟩ := id hJ
  obtain ⟨b1, b2, b3, b4, b5, b6, b7, b8, b9⟩ := id hB
  obtain ⟨cn, ⟨c2, c3, c4, c5, c6, c7, c8⟩, ch, ck⟩ := id hC
  refine Prx.of (tX6_show v hl) ?_
  rintro x n1 μ1 ⟨rfl, h1⟩
  refine AC.of rfl ?_
  rcases h1 with ⟨hn, hx, e1⟩ | ⟨hy, hx, e1⟩
  · have R : ∀ L μ2, μ2 = am_set (am_set μ1 32 1 0) 32 0 0 → L = [(2, 32), (0, v)] → AW none 105 20 L [] n1 μ2 (fun r' n2 μ2 => r' = some (0, x) ∧ J n2 μ2) := by
      intro L μ2 e2 hL
      subst hL
      refine aw_aload_n (q := 21) mX7_show dX7_show_20 rfl rfl ?_
      refine aw_iconst (q := 22) mX7_show dX7_show_21 rfl rfl ?_
      refine aw_v1 (ci := 7) (q := 25) mX7_show dX7_show_22 rfl l7_139 k105_90 rfl kd_32 rfl rfl rfl (pX7_no n1 μ2 2) (kset (fun μ3 h3 => ?_))
      refine aw_zret mX7_show dX7_show_25 (by first | exact Or.inl rfl | exact Or.inr rfl | assumption | omega) ?_
      exact ⟨by rw [hx], hJ.ref (w := 2) (by rw [h3, e2, e1])⟩
    refine aw_aload_n (q := 1) mX7_show dX7_show_0 rfl rfl ?_
    refine aw_iconst (q := 2) mX7_show dX7_show_1 rfl rfl ?_
    refine aw_put (t := 0) (ji := 1) (q := 5) mX7_show dX7_show_2 rfl f7_123 rfl kd_32 rfl (Or.inl rfl) (Or.inl (by decide)) (fun μ_2 e_2 => ?_)
    refine aw_aload_n (q := 6) mX7_show dX7_show_5 rfl rfl ?_
    refine aw_iconst (q := 7) mX7_show dX7_show_6 rfl rfl ?_
    refine aw_put (t := 0) (ji := 0) (q := 10) mX7_show dX7_show_7 rfl f7_126 rfl kd_32 rfl (Or.inl rfl) (Or.inl (by decide)) (fun μ_7 e_7 => ?_)
    refine aw_iload_n (q := 11) mX7_show dX7_show_10 rfl rfl ?_
    refine aw_if_lt (tgt := 20) (q := 14) mX7_show dX7_show_11 rfl (by decide) (fun c_11 => ?_) (fun c_11 => ?_)
    · exact R _ μ_7 (by rw [e_7, e_2]) rfl
    · refine aw_iload_n (q := 15) mX7_show dX7_show_14 rfl rfl ?_
      refine aw_bipush (q := 17) mX7_show dX7_show_15 rfl rfl ?_
      refine aw_icmp_le (tgt := 26) (q := 20) mX7_show dX7_show_17 rfl (by decide) (fun c_17 => ?_) (fun c_17 => ?_)
      · exact absurd hn (by omega)
      · exact R _ μ_7 (by rw [e_7, e_2]) rfl
  · refine aw_aload_n (q := 1) mX7_show dX7_show_0 rfl rfl ?_
    refine aw_iconst (q := 2) mX7_show dX7_show_1 rfl rfl ?_
    refine aw_put (t := 0) (ji := 1) (q := 5) mX7_show dX7_show_2 rfl f7_123 rfl kd_32 rfl (Or.inl rfl) (Or.inl (by decide)) (fun μ_2 e_2 => ?_)
    refine aw_aload_n (q := 6) mX7_show dX7_show_5 rfl rfl ?_
    refine aw_iconst (q := 7) mX7_show dX7_show_6 rfl rfl ?_
    refine aw_put (t := 0) (ji := 0) (q := 10) mX7_show dX7_show_7 rfl f7_126 rfl kd_32 rfl (Or.inl rfl) (Or.inl (by decide)) (fun μ_7 e_7 => ?_)
    refine aw_iload_n (q := 11) mX7_show dX7_show_10 rfl rfl ?_
    refine aw_if_lt (tgt := 20) (q := 14) mX7_show dX7_show_11 rfl (by decide) (fun c_11 => ?_) (fun c_11 => ?_)
    · exact absurd c_11 (by omega)
    · refine aw_iload_n (q := 15) mX7_show dX7_show_14 rfl rfl ?_
      refine aw_bipush (q := 17) mX7_show dX7_show_15 rfl rfl ?_
      refine aw_icmp_le (tgt := 26) (q := 20) mX7_show dX7_show_17 rfl (by decide) (fun c_17 => ?_) (fun c_17 => ?_)
      · refine aw_aload_n (q := 27) mX7_show dX7_show_26 rfl rfl ?_
        refine aw_iload_n (q := 28) mX7_show dX7_show_27 rfl rfl ?_
        refine aw_put (t := 0) (ji := 5) (q := 31) mX7_show dX7_show_28 rfl f7_19 rfl kd_32 rfl (Or.inl rfl) (Or.inl (by decide)) (fun μ_28 e_28 => ?_)
        refine aw_aload_n (q := 32) mX7_show dX7_show_31 rfl rfl ?_
        refine aw_v0 (ci := 7) (q := 35) mX7_show dX7_show_32 rfl l7_143 k105_91 rfl kd_32 rfl rfl rfl (pX7_done n1 μ_28) (kset (fun μ4 h4 => ?_))
        refine aw_zret mX7_show dX7_show_35 (by first | exact Or.inl rfl | exact Or.inr rfl | assumption | omega) ?_
        have hO : Of (fun a j => (a = 1 ∧ j = 7) ∨ (a = 4 ∧ j = 5) ∨ (a = 0 ∧ j = 2) ∨ (a = 32 ∧ (j ≤ 1 ∨ j = 5 ∨ j = 21))) μ μ4 := by
          rw [h4, e_28, e_7, e_2, e1]
          exact ((((((Of.rf.set (by omega)).set (by omega)).set (by omega)).set (by omega)).set (by omega)).set (by omega)).set (by omega)
        have v45 : μ4 4 5 = 1 := by rw [h4, e_28, e_7, e_2, e1]; repeat (first | rw [am_sn (Or.inl (by decide))] | rw [am_sn (Or.inr (by decide))] | rw [am_ss])
        have v21 : μ4 32 21 = 0 := by rw [h4]; repeat (first | rw [am_sn (Or.inl (by decide))] | rw [am_sn (Or.inr (by decide))] | rw [am_ss])
        have vs : μ4 0 2 = μ4 32 0 := by rw [h4, e_28, e_7, e_2, e1]; repeat (first | rw [am_sn (Or.inl (by decide))] | rw [am_sn (Or.inr (by decide))] | rw [am_ss])
        have vm : μ4 32 5 = v := by rw [h4, e_28]; repeat (first | rw [am_sn (Or.inl (by decide))] | rw [am_sn (Or.inr (by decide))] | rw [am_ss])
        have vc : μ4 1 7 = v := by rw [h4, e_28, e_7, e_2, e1]; repeat (first | rw [am_sn (Or.inl (by decide))] | rw [am_sn (Or.inr (by decide))] | rw [am_ss])
        refine ⟨by rw [hx], hJ.bk (Lay_j (hJ.1) hO (fun a j z => by (repeat' (refine Or.elim z ?_ ?_ <;> clear z <;> intro z)) <;> first | (obtain ⟨rfl, _⟩ := z; first | exact Sj_0 (by omega) | exact Sj_1 (by omega) (by omega) | exact Sj_32 (by omega) | exact Sj_4 (by omega) (by omega) | exact Sj_2 _ | exact Sj_3 _ | exact Sj_33 (by omega) (by omega) | exact Sj_66 (by omega) (by omega) | exact Sj_w (by omega)) | (subst z; first | exact Sj_2 _ | exact Sj_3 _ | exact Sj_33 (by omega) (by omega) | exact Sj_66 (by omega) (by omega) | exact Sj_w (by omega)) | exact Sj_33 (by omega) (by omega) | exact Sj_66 (by omega) (by omega) | exact Sj_w (by omega))) ⟨by rw [hO 32 2 (by omega)]; exact b1, by rw [hO 32 3 (by omega)]; exact b2, by rw [hO 32 4 (by omega)]; exact b3, by omega, by rw [hO 32 6 (by omega)]; exact b5, by rw [hO 32 7 (by omega)]; omega, hO 32 8 (by omega)⟩ ⟨by rw [hO 1 2 (by omega), hO 32 7 (by omega)]; exact c2, by rw [hO 1 3 (by omega), hO 32 8 (by omega)]; exact c3, by rw [hO 1 4 (by omega), hO 32 2 (by omega)]; exact c4, by rw [hO 1 5 (by omega), hO 32 3 (by omega)]; exact c5, by rw [hO 1 6 (by omega), hO 32 4 (by omega)]; exact c6, by rw [vc, vm], by rw [hO 1 8 (by omega), hO 32 6 (by omega)]; exact c8⟩ (fun l' l0 l1 => by rw [hO 32 7 (by omega)] at l1; rw [hO 33 l' (by omega), hO 2 l' (by omega)]; exact ⟨b8 l' l0 l1, ch l' l0 l1⟩) (fun j => hO 3 j (by omega)) (fun a j _ _ => hO a j (by omega)) (fun a j _ => hO a j (by omega)) vs (J.unset v21) (J.stale v45)⟩
      · exact absurd c_17 (by omega)
theorem pr_keep {n : Nat} {μ : am_M} (v : Int) (hv : v = 0 ∨ v = 1) (hJ : J n μ) : Prx 63 106 [(0, v)] n μ := by
  obtain ⟨hl, hB, hC, hD, hs, hM, hP⟩ := id hJ
  obtain ⟨b1, b2, b3, b4, b5, b6, b7, b8, b9⟩ := id hB
  obtain ⟨cn, ⟨c2, c3, c4, c5, c6, c7, c8⟩, ch, ck⟩ := id hC
  refine AC.of rfl ?_
  refine aw_aload_n (q := 1) mX6_keep dX6_keep_0 rfl rfl ?_
  refine aw_get (t := 2) (ji := 0) (q := 4) mX6_keep dX6_keep_1 rfl f6_12 rfl kd_0 rfl (ly_0_0 hl) ?_
  refine aw_iload_n (q := 5) mX6_keep dX6_keep_4 rfl rfl ?_
  refine aw_put (t := 0) (ji := 8) (q := 8) mX6_keep dX6_keep_5 rfl f6_124 rfl kd_1 rfl (Or.inl rfl) (by first | exact Or.inr (Or.inl rfl) | exact Or.inr (Or.inr rfl) | exact Or.inr (by assumption) | exact Or.inr (by omega)) (fun μ_5 e_5 => ?_)
  have hl : Lay n μ_5 := by rw [e_5]; exact Lay.setF lf_1_8 hl
  refine aw_aload_n (q := 9) mX6_keep dX6_keep_8 rfl rfl ?_
  refine aw_v0 (ci := 6) (q := 12) mX6_keep dX6_keep_9 rfl l6_43 k63_80 rfl kd_0 rfl rfl rfl (pX6_accept n μ_5 hl) (kset (fun μ1 h1 => ?_))
  refine aw_zret mX6_keep dX6_keep_12 (by first | exact Or.inl rfl | exact Or.inr rfl | assumption | omega) ?_
  refine ⟨1, rfl, AC.of rfl ?_⟩
  rw [e_5] at h1
  refine aw_aload_n (q := 1) mX7_keep dX7_keep_0 rfl rfl ?_
  refine aw_iconst (q := 2) mX7_keep dX7_keep_1 rfl rfl ?_
  refine aw_put (t := 0) (ji := 1) (q := 5) mX7_keep dX7_keep_2 rfl f7_123 rfl kd_32 rfl (Or.inl rfl) (Or.inl (by decide)) (fun μ_2 e_2 => ?_)
  refine aw_aload_n (q := 6) mX7_keep dX7_keep_5 rfl rfl ?_
  refine aw_iconst (q := 7) mX7_keep dX7_keep_6 rfl rfl ?_
  refine aw_put (t := 0) (ji := 0) (q := 10) mX7_keep dX7_keep_7 rfl f7_126 rfl kd_32 rfl (Or.inl rfl) (Or.inl (by decide)) (fun μ_7 e_7 => ?_)
  refine aw_aload_n (q := 11) mX7_keep dX7_keep_10 rfl rfl ?_
  refine aw_iload_n (q := 12) mX7_keep dX7_keep_11 rfl rfl ?_
  refine aw_put (t := 0) (ji := 6) (q := 15) mX7_keep dX7_keep_12 rfl f7_157 rfl kd_32 rfl (Or.inl rfl) (by first | exact Or.inr (Or.inl rfl) | exact Or.inr (Or.inr rfl) | exact Or.inr (by assumption) | exact Or.inr (by omega)) (fun μ_12 e_12 => ?_)
  refine aw_aload_n (q := 16) mX7_keep dX7_keep_15 rfl rfl ?_
  refine aw_v0 (ci := 7) (q := 19) mX7_keep dX7_keep_16 rfl l7_143 k106_91 rfl kd_32 rfl rfl rfl (pX7_done n μ_12) (kset (fun μ4 h4 => ?_))
  refine aw_zret mX7_keep dX7_keep_19 (by first | exact Or.inl rfl | exact Or.inr rfl | assumption | omega) ?_
  have hO : Of (fun a j => (a = 1 ∧ j = 8) ∨ (a = 4 ∧ j = 5) ∨ (a = 0 ∧ j = 2) ∨ (a = 32 ∧ (j ≤ 1 ∨ j = 6 ∨ j = 21))) μ μ4 := by
    rw [h4, e_12, e_7, e_2, h1]
    exact ((((((Of.rf.set (by omega)).set (by omega)).set (by omega)).set (by omega)).set (by omega)).set (by omega)).set (by omega)
  have v45 : μ4 4 5 = 1 := by rw [h4, e_12, e_7, e_2, h1]; repeat (first | rw [am_sn (Or.inl (by decide))] | rw [am_sn (Or.inr (by decide))] | rw [am_ss])
  have v21 : μ4 32 21 = 0 := by rw [h4]; repeat (first | rw [am_sn (Or.inl (by decide))] | rw [am_sn (Or.inr (by decide))] | rw [am_ss])
  have vs : μ4 0 2 = μ4 32 0 := by rw [h4, e_12, e_7, e_2, h1]; repeat (first | rw [am_sn (Or.inl (by decide))] | rw [am_sn (Or.inr (by decide))] | rw [am_ss])
  have vm : μ4 32 6 = v := by rw [h4, e_12]; repeat (first | rw [am_sn (Or.inl (by decide))] | rw [am_sn (Or.inr (by decide))] | rw [am_ss])
  have vc : μ4 1 8 = v := by rw [h4, e_12, e_7, e_2, h1]; repeat (first | rw [am_sn (Or.inl (by decide))] | rw [am_sn (Or.inr (by decide))] | rw [am_ss])
  exact ⟨rfl, hJ.bk (Lay_j (hJ.1) hO (fun a j z => by (repeat' (refine Or.elim z ?_ ?_ <;> clear z <;> intro z)) <;> first | (obtain ⟨rfl, _⟩ := z; first | exact Sj_0 (by omega) | exact Sj_1 (by omega) (by omega) | exact Sj_32 (by omega) | exact Sj_4 (by omega) (by omega) | exact Sj_2 _ | exact Sj_3 _ | exact Sj_33 (by omega) (by omega) | exact Sj_66 (by omega) (by omega) | exact Sj_w (by omega)) | (subst z; first | exact Sj_2 _ | exact Sj_3 _ | exact Sj_33 (by omega) (by omega) | exact Sj_66 (by omega) (by omega) | exact Sj_w (by omega)) | exact Sj_33 (by omega) (by omega) | exact Sj_66 (by omega) (by omega) | exact Sj_w (by omega))) ⟨by rw [hO 32 2 (by omega)]; exact b1, by rw [hO 32 3 (by omega)]; exact b2, by rw [hO 32 4 (by omega)]; exact b3, by rw [hO 32 5 (by omega)]; exact b4, by rw [vm]; exact hv, by rw [hO 32 7 (by omega)]; omega, hO 32 8 (by omega)⟩ ⟨by rw [hO 1 2 (by omega), hO 32 7 (by omega)]; exact c2, by rw [hO 1 3 (by omega), hO 32 8 (by omega)]; exact c3, by rw [hO 1 4 (by omega), hO 32 2 (by omega)]; exact c4, by rw [hO 1 5 (by omega), hO 32 3 (by omega)]; exact c5, by rw [hO 1 6 (by omega), hO 32 4 (by omega)]; exact c6, by rw [hO 1 7 (by omega), hO 32 5 (by omega)]; exact c7, by rw [vc, vm]⟩ (fun l' l0 l1 => by rw [hO 32 7 (by omega)] at l1; rw [hO 33 l' (by omega), hO 2 l' (by omega)]; exact ⟨b8 l' l0 l1, ch l' l0 l1⟩) (fun j => hO 3 j (by omega)) (fun a j _ _ => hO a j (by omega)) (fun a j _ => hO a j (by omega)) vs (J.unset v21) (J.stale v45)⟩

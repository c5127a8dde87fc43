/-! calls that tell of a note: bind, fix, loose, move (text by wip/gen/genset.py) -/
def w_fx (μ : am_M) (k p : Int) : Int := if 0 ≤ k ∧ k < μ 32 8 then (if 0 ≤ p ∧ p ≤ 400 then 0 else 2) else 1
theorem tX6_fix {n : Nat} {μ : am_M} (k p : Int) (hJ : J n μ) : AC 59 [(2, 0), (0, k), (0, p)] n μ (fun r n1 μ1 => ∃ x, r = some (0, x) ∧ n1 = n ∧ (Cr μ (w_fx μ k p) 0 x μ1 ∨ (w_fx μ k p = 0 ∧ x = 1 ∧ μ1 = am_set (am_set (am_set μ (nf k) 9 p) 4 5 1) 0 2 0))) := by
  obtain ⟨hl, hB, hC, hD, hs, hM, hP⟩ := id hJ
  have b6 := hB.2.2.2.2.2.1
  have c2 := hC.2.1.1
  refine AC.of rfl ?_
  refine aw_aload_n (q := 1) mX6_fix dX6_fix_0 rfl rfl ?_
  refine aw_get (t := 2) (ji := 0) (q := 4) mX6_fix dX6_fix_1 rfl f6_12 rfl kd_0 rfl (ly_0_0 hl) ?_
  refine aw_iload_n (q := 5) mX6_fix dX6_fix_4 rfl rfl ?_
  refine aw_v1 (ci := 0) (q := 8) mX6_fix dX6_fix_5 rfl l6_85 k59_4 rfl kd_1 rfl rfl rfl (pX0_find n μ k hl hB hC) (kref (fun a ha => ?_))
  rcases ha with ⟨ha, k0, k1⟩ | ⟨ha, hn⟩
  · obtain ⟨hN, hm, hr, hD1, h24⟩ := JNb hJ k0 k1
    obtain ⟨m0, m1, m2, m3, m5, m6, m7, m8, m9, m10, mc⟩ := hm
    obtain ⟨-, n2, n3, n4, n5, n6, n7, n8, n9, -⟩ := id hN
    rw [← ha] at hr m0 m1 m2 m3 m5 m6 m7 m8 m9 m10 ⊢
    have hk_a := hr.k
    have hg_a := hr.1
    refine aw_astore_n (q := 9) mX6_fix dX6_fix_8 rfl (by decide) rfl ?_
    refine aw_aload_n (q := 10) mX6_fix dX6_fix_9 rfl rfl ?_
    refine aw_ifnonnull (tgt := 19) (q := 13) mX6_fix dX6_fix_10 rfl (by decide) (fun c_10 => ?_) (fun c_10 => ?_)
    · refine aw_iload_n (q := 20) mX6_fix dX6_fix_19 rfl rfl ?_
      refine aw_iconst (q := 21) mX6_fix dX6_fix_20 rfl rfl ?_
      refine aw_sipush (q := 24) mX6_fix dX6_fix_21 rfl rfl ?_
      refine aw_s3 (q := 27) mX6_fix dX6_fix_24 rfl lm6_29 l6_29 k59_84 rfl rfl rfl (pX6_within n μ p 0 400) (kint (fun y μ3 hy => ?_))
      obtain ⟨hmm, hy⟩ := hy
      subst hmm
      refine aw_if_ne (tgt := 36) (q := 30) mX6_fix dX6_fix_27 rfl (by decide) (fun c_27 => ?_) (fun c_27 => ?_)
      · refine aw_aload_n (q := 37) mX6_fix dX6_fix_36 rfl rfl ?_
        refine aw_iload_n (q := 38) mX6_fix dX6_fix_37 rfl rfl ?_
        refine aw_put (t := 0) (ji := 9) (q := 41) mX6_fix dX6_fix_38 rfl f6_115 rfl hk_a rfl (Or.inl rfl) (Or.inl (by decide)) (fun μ_38 e_38 => ?_)
        have hl : Lay n μ_38 := by rw [e_38]; exact Lay.setN hg_a (fun _ => by decide) hl
        refine aw_aload_n (q := 42) mX6_fix dX6_fix_41 rfl rfl ?_
        refine aw_v0 (ci := 6) (q := 45) mX6_fix dX6_fix_42 rfl l6_43 k59_80 rfl kd_0 rfl rfl rfl (pX6_accept n μ_38 hl) (kset (fun μ2 h2 => ?_))
        refine aw_zret mX6_fix dX6_fix_45 (by first | exact Or.inl rfl | exact Or.inr rfl | assumption | omega) ?_
        exact ⟨_, rfl, rfl, Or.inr ⟨by unfold w_fx; (repeat' split) <;> omega, rfl, by rw [h2, e_38]⟩⟩
      · refine aw_aload_n (q := 31) mX6_fix dX6_fix_30 rfl rfl ?_
        refine aw_iconst (q := 32) mX6_fix dX6_fix_31 rfl rfl ?_
        refine aw_v1 (ci := 6) (q := 35) mX6_fix dX6_fix_32 rfl l6_33 k59_81 rfl kd_0 rfl rfl rfl (pX6_refuse n μ3 2) (kset (fun μ2 h2 => ?_))
        refine aw_zret mX6_fix dX6_fix_35 (by first | exact Or.inl rfl | exact Or.inr rfl | assumption | omega) ?_
        have hw : w_fx μ3 k p = 2 := by unfold w_fx; (repeat' split) <;> omega
        exact ⟨_, rfl, rfl, Or.inl ⟨by rw [hw]; decide, rfl, by rw [hw]; exact h2⟩⟩
    · exact absurd (show 0 ≤ a by omega) c_10
  · refine aw_astore_n (q := 9) mX6_fix dX6_fix_8 rfl (by decide) rfl ?_
    refine aw_aload_n (q := 10) mX6_fix dX6_fix_9 rfl rfl ?_
    refine aw_ifnonnull (tgt := 19) (q := 13) mX6_fix dX6_fix_10 rfl (by decide) (fun c_10 => ?_) (fun c_10 => ?_)
    · exact absurd c_10 (by omega)
    · refine aw_aload_n (q := 14) mX6_fix dX6_fix_13 rfl rfl ?_
      refine aw_iconst (q := 15) mX6_fix dX6_fix_14 rfl rfl ?_
      refine aw_v1 (ci := 6) (q := 18) mX6_fix dX6_fix_15 rfl l6_33 k59_81 rfl kd_0 rfl rfl rfl (pX6_refuse n μ 1) (kset (fun μ2 h2 => ?_))
      refine aw_zret mX6_fix dX6_fix_18 (by first | exact Or.inl rfl | exact Or.inr rfl | assumption | omega) ?_
      have hw : w_fx μ k p = 1 := by unfold w_fx; (repeat' split) <;> omega
      exact ⟨_, rfl, rfl, Or.inl ⟨by rw [hw]; decide, rfl, by rw [hw]; exact h2⟩⟩
theorem pr_fix {n : Nat} {μ : am_M} (k p : Int) (hJ : J n μ) : Prx 59 102 [(0, k), (0, p)] n μ := by
  obtain ⟨hl, hB, hC, hD, hs, hM, hP⟩ := id hJ
  refine Prx.of (tX6_fix k p hJ) ?_
  rintro x n1 μ1 ⟨rfl, h1⟩
  have R : ∀ (μ2 μ3 : am_M) (w : Int), x = 0 → μ1 = am_set μ 0 2 (w_fx μ k p) → w_fx μ k p = w → μ2 = am_set (am_set μ1 32 1 0) 32 0 0 → μ3 = am_set μ2 32 0 w → (some ((0 : Nat), (0 : Int)) = some (0, x) ∧ J n1 μ3) := by
    intro μ2 μ3 w hx e1 hw e2 e3
    exact ⟨by rw [hx], hJ.ref (w := w) (by rw [e3, e2, e1, hw])⟩
  have T : ∀ w, w ≠ 0 → w_fx μ k p = w → x = 0 ∧ μ1 = am_set μ 0 2 (w_fx μ k p) := fun w hw0 hw => by
    rcases h1 with ⟨-, hx, e1⟩ | ⟨h0, -⟩
    · exact ⟨hx, e1⟩
    · omega
  have hk3 : Of (fun a j => (a = 0 ∧ j = 2) ∨ (a = 4 ∧ j = 5) ∨ (a = nf k ∧ 5 ≤ j ∧ j ≤ 10)) μ μ1 := by
    rcases h1 with ⟨-, -, e1⟩ | ⟨-, -, e1⟩
    · rw [e1]; exact Of.rf.set (by omega)
    · rw [e1]; exact ((Of.rf.set (by omega)).set (by omega)).set (by omega)
  have hnk : 0 ≤ k → 66 ≤ nf k ∧ nf k % 2 = 0 := fun z => by unfold nf; omega
  have hl1 : 0 ≤ k → Lay n1 μ1 := fun z => Lay_j hl hk3 (fun a j y => by have := hnk z; (repeat' (refine Or.elim y ?_ ?_ <;> clear y <;> intro y)) <;> first | (obtain ⟨rfl, _⟩ := y; first | exact Sj_0 (by omega) | exact Sj_1 (by omega) (by omega) | exact Sj_32 (by omega) | exact Sj_4 (by omega) (by omega) | exact Sj_2 _ | exact Sj_3 _ | exact Sj_33 (by omega) (by omega) | exact Sj_66 (by omega) (by omega) | exact Sj_w (by omega)) | (subst y; first | exact Sj_2 _ | exact Sj_3 _ | exact Sj_33 (by omega) (by omega) | exact Sj_66 (by omega) (by omega) | exact Sj_w (by omega)) | exact Sj_33 (by omega) (by omega) | exact Sj_66 (by omega) (by omega) | exact Sj_w (by omega))
  refine AC.of rfl ?_
  refine aw_aload_n (q := 1) mX7_fix dX7_fix_0 rfl rfl ?_
  refine aw_iconst (q := 2) mX7_fix dX7_fix_1 rfl rfl ?_
  refine aw_put (t := 0) (ji := 1) (q := 5) mX7_fix dX7_fix_2 rfl f7_123 rfl kd_32 rfl (Or.inl rfl) (Or.inl (by decide)) (fun μ_2 e_2 => ?_)
  refine aw_aload_n (q := 6) mX7_fix dX7_fix_5 rfl rfl ?_
  refine aw_iconst (q := 7) mX7_fix dX7_fix_6 rfl rfl ?_
  refine aw_put (t := 0) (ji := 0) (q := 10) mX7_fix dX7_fix_7 rfl f7_126 rfl kd_32 rfl (Or.inl rfl) (Or.inl (by decide)) (fun μ_7 e_7 => ?_)
  refine aw_aload_n (q := 11) mX7_fix dX7_fix_10 rfl rfl ?_
  refine aw_iload_n (q := 12) mX7_fix dX7_fix_11 rfl rfl ?_
  have hO7 : Of (fun a j => (a = 0 ∧ j = 2) ∨ (a = 4 ∧ j = 5) ∨ (a = nf k ∧ 5 ≤ j ∧ j ≤ 10) ∨ (a = 32 ∧ (j = 0 ∨ j = 1))) μ μ_7 := by
    rw [e_7, e_2]; exact ((hk3.mono (fun a j z => by omega)).set (by omega)).set (by omega)
  have hin := pX7_isNote n1 μ_7 k
  refine aw_v1 (ci := 7) (q := 15) mX7_fix dX7_fix_12 rfl l7_154 k102_93 rfl kd_32 rfl rfl rfl (hin) (kint (fun y μ3 hy => ?_))
  obtain ⟨hm3, hy⟩ := hy
  subst hm3
  have e8 : μ3 32 8 = μ 32 8 := by
    by_cases z0 : 0 ≤ k
    · exact hO7 32 8 (by unfold nf; omega)
    · rcases h1 with ⟨-, -, e1⟩ | ⟨h0, -⟩
      · rw [e_7, e_2, e1, am_sn (Or.inr (by decide)), am_sn (Or.inr (by decide)), am_sn (Or.inl (by decide))]
      · unfold w_fx at h0
        rw [if_neg (by omega)] at h0
        exact absurd h0 (by decide)
  refine aw_if_ne (tgt := 24) (q := 18) mX7_fix dX7_fix_15 rfl (by decide) (fun c_15 => ?_) (fun c_15 => ?_)
  · rw [e8] at hy
    have k0 : 0 ≤ k := by omega
    have k1 : k < μ 32 8 := by omega
    have hl := hl1 k0
    obtain ⟨hr66, hre⟩ := hnk k0
    have hl : Lay n1 μ3 := Lay_j hJ.1 hO7 (fun a j z => by (repeat' (refine Or.elim z ?_ ?_ <;> clear z <;> intro z)) <;> first | (obtain ⟨rfl, _⟩ := z; first | exact Sj_0 (by omega) | exact Sj_1 (by omega) (by omega) | exact Sj_32 (by omega) | exact Sj_4 (by omega) (by omega) | exact Sj_2 _ | exact Sj_3 _ | exact Sj_33 (by omega) (by omega) | exact Sj_66 (by omega) (by omega) | exact Sj_w (by omega)) | (subst z; first | exact Sj_2 _ | exact Sj_3 _ | exact Sj_33 (by omega) (by omega) | exact Sj_66 (by omega) (by omega) | exact Sj_w (by omega)) | exact Sj_33 (by omega) (by omega) | exact Sj_66 (by omega) (by omega) | exact Sj_w (by omega))
    obtain ⟨hN, hm, hr, hD1, h24⟩ := JNb hJ k0 k1
    obtain ⟨m0, m1, m2, m3, m5, m6, m7, m8, m9, m10, mc⟩ := id hm
    obtain ⟨n1', n2, n3, n4, n5, n6, n7, n8, n9, n10, n11, n12⟩ := id hN
    have R2 : ∀ L, ¬ (0 ≤ p ∧ p ≤ 400) → L = [(2, 32), (0, k), (0, p)] → AW none 102 35 L [] n1 μ3 (fun r' n2 μ2 => r' = some (0, x) ∧ J n2 μ2) := by
      intro L hh hL
      subst hL
      have hw : w_fx μ k p = 2 := by unfold w_fx; (repeat' split) <;> omega
      obtain ⟨hx, e1⟩ := T 2 (by decide) hw
      refine aw_aload_n (q := 36) mX7_fix dX7_fix_35 rfl rfl ?_
      refine aw_iconst (q := 37) mX7_fix dX7_fix_36 rfl rfl ?_
      refine aw_v1 (ci := 7) (q := 40) mX7_fix dX7_fix_37 rfl l7_139 k102_90 rfl kd_32 rfl rfl rfl (pX7_no n1 μ3 2) (kset (fun μ4 h4 => ?_))
      refine aw_zret mX7_fix dX7_fix_40 (by first | exact Or.inl rfl | exact Or.inr rfl | assumption | omega) ?_
      exact R μ3 μ4 2 hx e1 hw (by rw [e_7, e_2]) h4
    refine aw_iload_n (q := 25) mX7_fix dX7_fix_24 rfl rfl ?_
    refine aw_if_lt (tgt := 35) (q := 28) mX7_fix dX7_fix_25 rfl (by decide) (fun c_25 => ?_) (fun c_25 => ?_)
    · exact R2 _ (by omega) rfl
    · refine aw_iload_n (q := 29) mX7_fix dX7_fix_28 rfl rfl ?_
      refine aw_sipush (q := 32) mX7_fix dX7_fix_29 rfl rfl ?_
      refine aw_icmp_le (tgt := 41) (q := 35) mX7_fix dX7_fix_32 rfl (by decide) (fun c_32 => ?_) (fun c_32 => ?_)
      · have hw : w_fx μ k p = 0 := by unfold w_fx; (repeat' split) <;> omega
        rcases h1 with ⟨h0, -⟩ | ⟨-, hx, e1⟩
        · exact absurd hw h0
        refine aw_aload_n (q := 42) mX7_fix dX7_fix_41 rfl rfl ?_
        refine aw_get (t := 2) (ji := 18) (q := 45) mX7_fix dX7_fix_42 rfl f7_50 rfl kd_32 rfl (ly_32_18 hl) ?_
        refine aw_iload_n (q := 46) mX7_fix dX7_fix_45 rfl rfl ?_
        refine aw_iload_n (q := 47) mX7_fix dX7_fix_46 rfl rfl ?_
        refine aw_iast (q := 48) mX7_fix dX7_fix_47 rfl kd_42 (by omega) (by omega) (fun μ_47 e_47 => ?_)
        have hl : Lay n1 μ_47 := by rw [e_47]; exact Lay.setA la_42 hl
        refine aw_aload_n (q := 49) mX7_fix dX7_fix_48 rfl rfl ?_
        refine aw_v0 (ci := 7) (q := 52) mX7_fix dX7_fix_49 rfl l7_143 k102_91 rfl kd_32 rfl rfl rfl (pX7_done n1 μ_47) (kset (fun μ4 h4 => ?_))
        refine aw_zret mX7_fix dX7_fix_52 (by first | exact Or.inl rfl | exact Or.inr rfl | assumption | omega) ?_
        have hO : Of (fun a j => (a = 0 ∧ j = 2) ∨ (a = 4 ∧ j = 5) ∨ (a = nf k ∧ j = 9) ∨ (a = 32 ∧ (j = 0 ∨ j = 1 ∨ j = 21)) ∨ (a = 42 ∧ j = k)) μ μ4 := by
          rw [h4, e_47, e_7, e_2, e1]
          exact ((((((Of.rf.set (by omega)).set (by omega)).set (by omega)).set (by omega)).set (by omega)).set (by omega)).set (by omega)
        have v42 : μ4 42 k = p := by rw [h4, am_sn (Or.inl (by decide)), e_47, am_ss]
        have u9 : μ4 (nf k) 9 = p := by rw [h4, am_sn (Or.inl (by omega)), e_47, am_sn (Or.inl (by omega)), e_7, am_sn (Or.inl (by omega)), e_2, am_sn (Or.inl (by omega)), e1, am_sn (Or.inl (by omega)), am_sn (Or.inl (by omega)), am_ss]
        have v45 : μ4 4 5 = 1 := by rw [h4, am_sn (Or.inl (by decide)), e_47, am_sn (Or.inl (by decide)), e_7, am_sn (Or.inl (by decide)), e_2, am_sn (Or.inl (by decide)), e1, am_sn (Or.inl (by decide)), am_ss]
        have v21 : μ4 32 21 = 0 := by rw [h4, am_ss]
        have vs : μ4 0 2 = μ4 32 0 := by rw [h4, am_sn (Or.inl (by decide)), am_sn (Or.inr (by decide)), e_47, am_sn (Or.inl (by decide)), am_sn (Or.inl (by decide)), e_7, am_sn (Or.inl (by decide)), am_ss, e_2, am_sn (Or.inl (by decide)), e1, am_ss]
        have k34 : μ4 34 k = μ 34 k := hO 34 k (by omega)
        have k35 : μ4 35 k = μ 35 k := hO 35 k (by omega)
        have k36 : μ4 36 k = μ 36 k := hO 36 k (by omega)
        have k37 : μ4 37 k = μ 37 k := hO 37 k (by omega)
        have k38 : μ4 38 k = μ 38 k := hO 38 k (by omega)
        have k39 : μ4 39 k = μ 39 k := hO 39 k (by omega)
        have k40 : μ4 40 k = μ 40 k := hO 40 k (by omega)
        have k41 : μ4 41 k = μ 41 k := hO 41 k (by omega)
        have k42 := v42
        have k43 : μ4 43 k = μ 43 k := hO 43 k (by omega)
        have k44 : ∀ c, μ4 44 c = μ 44 c := fun c => hO 44 c (by omega)
        have f0 : μ4 (nf k) 0 = μ (nf k) 0 := hO (nf k) 0 (by omega)
        have f1 : μ4 (nf k) 1 = μ (nf k) 1 := hO (nf k) 1 (by omega)
        have f2 : μ4 (nf k) 2 = μ (nf k) 2 := hO (nf k) 2 (by omega)
        have f3 : μ4 (nf k) 3 = μ (nf k) 3 := hO (nf k) 3 (by omega)
        have f5 : μ4 (nf k) 5 = μ (nf k) 5 := hO (nf k) 5 (by omega)
        have f6 : μ4 (nf k) 6 = μ (nf k) 6 := hO (nf k) 6 (by omega)
        have f7 : μ4 (nf k) 7 = μ (nf k) 7 := hO (nf k) 7 (by omega)
        have f8 : μ4 (nf k) 8 = μ (nf k) 8 := hO (nf k) 8 (by omega)
        have f9 := u9
        have f10 : μ4 (nf k) 10 = μ (nf k) 10 := hO (nf k) 10 (by omega)
        have kn2 : ∀ c, μ4 (nf k + 1) c = μ (nf k + 1) c := fun c => hO _ c (by omega)
        have k7 : μ4 32 7 = μ 32 7 := hO 32 7 (by omega)
        have hJ2 : J n1 μ4 := hJ.upd (q := k) (Lay_j hJ.1 hO (fun a j z => by (repeat' (refine Or.elim z ?_ ?_ <;> clear z <;> intro z)) <;> first | (obtain ⟨rfl, _⟩ := z; first | exact Sj_0 (by omega) | exact Sj_1 (by omega) (by omega) | exact Sj_32 (by omega) | exact Sj_4 (by omega) (by omega) | exact Sj_2 _ | exact Sj_3 _ | exact Sj_33 (by omega) (by omega) | exact Sj_66 (by omega) (by omega) | exact Sj_w (by omega)) | (subst z; first | exact Sj_2 _ | exact Sj_3 _ | exact Sj_33 (by omega) (by omega) | exact Sj_66 (by omega) (by omega) | exact Sj_w (by omega)) | exact Sj_33 (by omega) (by omega) | exact Sj_66 (by omega) (by omega) | exact Sj_w (by omega))) (fun j _ _ => hO 32 j (by omega)) (fun j _ _ => hO 1 j (by omega)) (fun j => hO 2 j (by omega)) (fun j => hO 3 j (by omega)) (fun j => hO 33 j (by omega)) (fun z z0 z1 hz => ⟨fun a _ _ => hO a z (by omega), fun c _ _ => hO 44 _ (by omega), fun j _ _ => hO _ j (by unfold nf; omega), fun c _ _ => hO _ c (by unfold nf; omega)⟩) (by
          refine ⟨?_, ?_, by rw [k43]; exact hD1.1, by rw [k43]; exact hD1.2⟩
          · unfold Nb
            rw [k34, k35, k36, k37, k38, k39, k40, k41, k42, k7]
            exact ⟨n1', n2, n3, n4, n5, n6, n7, n8, ⟨by omega, by omega⟩, n10, fun c z0 z1 => by rw [k44]; exact n11 c z0 z1, n12⟩
          · unfold Nm
            rw [k34, k35, k36, k37, k38, k39, k40, k41, k42, k43, f0, f1, f2, f3, f5, f6, f7, f8, f9, f10]
            exact ⟨m0, m1, m2, m3, m5, m6, m7, m8, rfl, m10, fun c z0 z1 => by rw [k44, kn2]; exact mc c z0 z1⟩) vs (J.unset v21) (J.stale v45)
        exact ⟨by rw [hx], hJ2⟩
      · exact R2 _ (by omega) rfl
  · rw [e8] at hy
    have hw : w_fx μ k p = 1 := by unfold w_fx; (repeat' split) <;> omega
    obtain ⟨hx, e1⟩ := T 1 (by decide) hw
    refine aw_aload_n (q := 19) mX7_fix dX7_fix_18 rfl rfl ?_
    refine aw_iconst (q := 20) mX7_fix dX7_fix_19 rfl rfl ?_
    refine aw_v1 (ci := 7) (q := 23) mX7_fix dX7_fix_20 rfl l7_139 k102_90 rfl kd_32 rfl rfl rfl (pX7_no n1 μ3 1) (kset (fun μ4 h4 => ?_))
    refine aw_zret mX7_fix dX7_fix_23 (by first | exact Or.inl rfl | exact Or.inr rfl | assumption | omega) ?_
    exact R μ3 μ4 1 hx e1 hw (by rw [e_7, e_2]) h4
def w_lo (μ : am_M) (k : Int) : Int := if 0 ≤ k ∧ k < μ 32 8 then (if 0 ≤ μ 42 k then 0 else 4) else 1
theorem tX6_loose {n : Nat} {μ : am_M} (k : Int) (hJ : J n μ) : AC 60 [(2, 0), (0, k)] n μ (fun r n1 μ1 => ∃ x, r = some (0, x) ∧ n1 = n ∧ (Cr μ (w_lo μ k) 0 x μ1 ∨ (w_lo μ k = 0 ∧ x = 1 ∧ μ1 = am_set (am_set (am_set μ (nf k) 9 (-1)) 4 5 1) 0 2 0))) := by
  obtain ⟨hl, hB, hC, hD, hs, hM, hP⟩ := id hJ
  have b6 := hB.2.2.2.2.2.1
  have c2 := hC.2.1.1
  refine AC.of rfl ?_
  refine aw_aload_n (q := 1) mX6_loose dX6_loose_0 rfl rfl ?_
  refine aw_get (t := 2) (ji := 0) (q := 4) mX6_loose dX6_loose_1 rfl f6_12 rfl kd_0 rfl (ly_0_0 hl) ?_
  refine aw_iload_n (q := 5) mX6_loose dX6_loose_4 rfl rfl ?_
  refine aw_v1 (ci := 0) (q := 8) mX6_loose dX6_loose_5 rfl l6_85 k60_4 rfl kd_1 rfl rfl rfl (pX0_find n μ k hl hB hC) (kref (fun a ha => ?_))
  rcases ha with ⟨ha, k0, k1⟩ | ⟨ha, hn⟩
  · obtain ⟨hN, hm, hr, hD1, h24⟩ := JNb hJ k0 k1
    obtain ⟨m0, m1, m2, m3, m5, m6, m7, m8, m9, m10, mc⟩ := hm
    obtain ⟨-, n2, n3, n4, n5, n6, n7, n8, n9, -⟩ := id hN
    rw [← ha] at hr m0 m1 m2 m3 m5 m6 m7 m8 m9 m10 ⊢
    have hk_a := hr.k
    have hg_a := hr.1
    refine aw_astore_n (q := 9) mX6_loose dX6_loose_8 rfl (by decide) rfl ?_
    refine aw_aload_n (q := 10) mX6_loose dX6_loose_9 rfl rfl ?_
    refine aw_ifnonnull (tgt := 19) (q := 13) mX6_loose dX6_loose_10 rfl (by decide) (fun c_10 => ?_) (fun c_10 => ?_)
    · refine aw_aload_n (q := 20) mX6_loose dX6_loose_19 rfl rfl ?_
      refine aw_v0 (ci := 3) (q := 23) mX6_loose dX6_loose_20 rfl l6_118 k60_33 rfl hk_a rfl rfl rfl (pX3_isFixed n μ a hk_a) (kint (fun y μ3 hy => ?_))
      obtain ⟨hmm, hy⟩ := hy
      subst hmm
      rw [m9] at hy
      refine aw_if_ne (tgt := 32) (q := 26) mX6_loose dX6_loose_23 rfl (by decide) (fun c_23 => ?_) (fun c_23 => ?_)
      · refine aw_aload_n (q := 33) mX6_loose dX6_loose_32 rfl rfl ?_
        refine aw_iconst (q := 34) mX6_loose dX6_loose_33 rfl rfl ?_
        refine aw_put (t := 0) (ji := 9) (q := 37) mX6_loose dX6_loose_34 rfl f6_115 rfl hk_a rfl (Or.inl rfl) (Or.inl (by decide)) (fun μ_34 e_34 => ?_)
        have hl : Lay n μ_34 := by rw [e_34]; exact Lay.setN hg_a (fun _ => by decide) hl
        refine aw_aload_n (q := 38) mX6_loose dX6_loose_37 rfl rfl ?_
        refine aw_v0 (ci := 6) (q := 41) mX6_loose dX6_loose_38 rfl l6_43 k60_80 rfl kd_0 rfl rfl rfl (pX6_accept n μ_34 hl) (kset (fun μ2 h2 => ?_))
        refine aw_zret mX6_loose dX6_loose_41 (by first | exact Or.inl rfl | exact Or.inr rfl | assumption | omega) ?_
        exact ⟨_, rfl, rfl, Or.inr ⟨by unfold w_lo; (repeat' split) <;> omega, rfl, by rw [h2, e_34]⟩⟩
      · refine aw_aload_n (q := 27) mX6_loose dX6_loose_26 rfl rfl ?_
        refine aw_iconst (q := 28) mX6_loose dX6_loose_27 rfl rfl ?_
        refine aw_v1 (ci := 6) (q := 31) mX6_loose dX6_loose_28 rfl l6_33 k60_81 rfl kd_0 rfl rfl rfl (pX6_refuse n μ3 4) (kset (fun μ2 h2 => ?_))
        refine aw_zret mX6_loose dX6_loose_31 (by first | exact Or.inl rfl | exact Or.inr rfl | assumption | omega) ?_
        have hw : w_lo μ3 k = 4 := by unfold w_lo; (repeat' split) <;> omega
        exact ⟨_, rfl, rfl, Or.inl ⟨by rw [hw]; decide, rfl, by rw [hw]; exact h2⟩⟩
    · exact absurd (show 0 ≤ a by omega) c_10
  · refine aw_astore_n (q := 9) mX6_loose dX6_loose_8 rfl (by decide) rfl ?_
    refine aw_aload_n (q := 10) mX6_loose dX6_loose_9 rfl rfl ?_
    refine aw_ifnonnull (tgt := 19) (q := 13) mX6_loose dX6_loose_10 rfl (by decide) (fun c_10 => ?_) (fun c_10 => ?_)
    · exact absurd c_10 (by omega)
    · refine aw_aload_n (q := 14) mX6_loose dX6_loose_13 rfl rfl ?_
      refine aw_iconst (q := 15) mX6_loose dX6_loose_14 rfl rfl ?_
      refine aw_v1 (ci := 6) (q := 18) mX6_loose dX6_loose_15 rfl l6_33 k60_81 rfl kd_0 rfl rfl rfl (pX6_refuse n μ 1) (kset (fun μ2 h2 => ?_))
      refine aw_zret mX6_loose dX6_loose_18 (by first | exact Or.inl rfl | exact Or.inr rfl | assumption | omega) ?_
      have hw : w_lo μ k = 1 := by unfold w_lo; (repeat' split) <;> omega
      exact ⟨_, rfl, rfl, Or.inl ⟨by rw [hw]; decide, rfl, by rw [hw]; exact h2⟩⟩
theorem pr_loose {n : Nat} {μ : am_M} (k : Int) (hJ : J n μ) : Prx 60 103 [(0, k)] n μ := by
  obtain ⟨hl, hB, hC, hD, hs, hM, hP⟩ := id hJ
  refine Prx.of (tX6_loose k hJ) ?_
  rintro x n1 μ1 ⟨rfl, h1⟩
  have R : ∀ (μ2 μ3 : am_M) (w : Int), x = 0 → μ1 = am_set μ 0 2 (w_lo μ k) → w_lo μ k = w → μ2 = am_set (am_set μ1 32 1 0) 32 0 0 → μ3 = am_set μ2 32 0 w → (some ((0 : Nat), (0 : Int)) = some (0, x) ∧ J n1 μ3) := by
    intro μ2 μ3 w hx e1 hw e2 e3
    exact ⟨by rw [hx], hJ.ref (w := w) (by rw [e3, e2, e1, hw])⟩
  have T : ∀ w, w ≠ 0 → w_lo μ k = w → x = 0 ∧ μ1 = am_set μ 0 2 (w_lo μ k) := fun w hw0 hw => by
    rcases h1 with ⟨-, hx, e1⟩ | ⟨h0, -⟩
    · exact ⟨hx, e1⟩
    · omega
  have hk3 : Of (fun a j => (a = 0 ∧ j = 2) ∨ (a = 4 ∧ j = 5) ∨ (a = nf k ∧ 5 ≤ j ∧ j ≤ 10)) μ μ1 := by
    rcases h1 with ⟨-, -, e1⟩ | ⟨-, -, e1⟩
    · rw [e1]; exact Of.rf.set (by omega)
    · rw [e1]; exact ((Of.rf.set (by omega)).set (by omega)).set (by omega)
  have hnk : 0 ≤ k → 66 ≤ nf k ∧ nf k % 2 = 0 := fun z => by unfold nf; omega
  have hl1 : 0 ≤ k → Lay n1 μ1 := fun z => Lay_j hl hk3 (fun a j y => by have := hnk z; (repeat' (refine Or.elim y ?_ ?_ <;> clear y <;> intro y)) <;> first | (obtain ⟨rfl, _⟩ := y; first | exact Sj_0 (by omega) | exact Sj_1 (by omega) (by omega) | exact Sj_32 (by omega) | exact Sj_4 (by omega) (by omega) | exact Sj_2 _ | exact Sj_3 _ | exact Sj_33 (by omega) (by omega) | exact Sj_66 (by omega) (by omega) | exact Sj_w (by omega)) | (subst y; first | exact Sj_2 _ | exact Sj_3 _ | exact Sj_33 (by omega) (by omega) | exact Sj_66 (by omega) (by omega) | exact Sj_w (by omega)) | exact Sj_33 (by omega) (by omega) | exact Sj_66 (by omega) (by omega) | exact Sj_w (by omega))
  refine AC.of rfl ?_
  refine aw_aload_n (q := 1) mX7_loose dX7_loose_0 rfl rfl ?_
  refine aw_iconst (q := 2) mX7_loose dX7_loose_1 rfl rfl ?_
  refine aw_put (t := 0) (ji := 1) (q := 5) mX7_loose dX7_loose_2 rfl f7_123 rfl kd_32 rfl (Or.inl rfl) (Or.inl (by decide)) (fun μ_2 e_2 => ?_)
  refine aw_aload_n (q := 6) mX7_loose dX7_loose_5 rfl rfl ?_
  refine aw_iconst (q := 7) mX7_loose dX7_loose_6 rfl rfl ?_
  refine aw_put (t := 0) (ji := 0) (q := 10) mX7_loose dX7_loose_7 rfl f7_126 rfl kd_32 rfl (Or.inl rfl) (Or.inl (by decide)) (fun μ_7 e_7 => ?_)
  refine aw_aload_n (q := 11) mX7_loose dX7_loose_10 rfl rfl ?_
  refine aw_iload_n (q := 12) mX7_loose dX7_loose_11 rfl rfl ?_
  have hO7 : Of (fun a j => (a = 0 ∧ j = 2) ∨ (a = 4 ∧ j = 5) ∨ (a = nf k ∧ 5 ≤ j ∧ j ≤ 10) ∨ (a = 32 ∧ (j = 0 ∨ j = 1))) μ μ_7 := by
    rw [e_7, e_2]; exact ((hk3.mono (fun a j z => by omega)).set (by omega)).set (by omega)
  have hin := pX7_isNote n1 μ_7 k
  refine aw_v1 (ci := 7) (q := 15) mX7_loose dX7_loose_12 rfl l7_154 k103_93 rfl kd_32 rfl rfl rfl (hin) (kint (fun y μ3 hy => ?_))
  obtain ⟨hm3, hy⟩ := hy
  subst hm3
  have e8 : μ3 32 8 = μ 32 8 := by
    by_cases z0 : 0 ≤ k
    · exact hO7 32 8 (by unfold nf; omega)
    · rcases h1 with ⟨-, -, e1⟩ | ⟨h0, -⟩
      · rw [e_7, e_2, e1, am_sn (Or.inr (by decide)), am_sn (Or.inr (by decide)), am_sn (Or.inl (by decide))]
      · unfold w_lo at h0
        rw [if_neg (by omega)] at h0
        exact absurd h0 (by decide)
  refine aw_if_ne (tgt := 24) (q := 18) mX7_loose dX7_loose_15 rfl (by decide) (fun c_15 => ?_) (fun c_15 => ?_)
  · rw [e8] at hy
    have k0 : 0 ≤ k := by omega
    have k1 : k < μ 32 8 := by omega
    have hl := hl1 k0
    obtain ⟨hr66, hre⟩ := hnk k0
    have hl : Lay n1 μ3 := Lay_j hJ.1 hO7 (fun a j z => by (repeat' (refine Or.elim z ?_ ?_ <;> clear z <;> intro z)) <;> first | (obtain ⟨rfl, _⟩ := z; first | exact Sj_0 (by omega) | exact Sj_1 (by omega) (by omega) | exact Sj_32 (by omega) | exact Sj_4 (by omega) (by omega) | exact Sj_2 _ | exact Sj_3 _ | exact Sj_33 (by omega) (by omega) | exact Sj_66 (by omega) (by omega) | exact Sj_w (by omega)) | (subst z; first | exact Sj_2 _ | exact Sj_3 _ | exact Sj_33 (by omega) (by omega) | exact Sj_66 (by omega) (by omega) | exact Sj_w (by omega)) | exact Sj_33 (by omega) (by omega) | exact Sj_66 (by omega) (by omega) | exact Sj_w (by omega))
    obtain ⟨hN, hm, hr, hD1, h24⟩ := JNb hJ k0 k1
    obtain ⟨m0, m1, m2, m3, m5, m6, m7, m8, m9, m10, mc⟩ := id hm
    obtain ⟨n1', n2, n3, n4, n5, n6, n7, n8, n9, n10, n11, n12⟩ := id hN
    have e42 : μ3 42 k = μ 42 k := hO7 42 k (by omega)
    refine aw_aload_n (q := 25) mX7_loose dX7_loose_24 rfl rfl ?_
    refine aw_get (t := 2) (ji := 18) (q := 28) mX7_loose dX7_loose_25 rfl f7_50 rfl kd_32 rfl (ly_32_18 hl) ?_
    refine aw_iload_n (q := 29) mX7_loose dX7_loose_28 rfl rfl ?_
    refine aw_iald (q := 30) mX7_loose dX7_loose_29 rfl kd_42 (by omega) (by omega) e42 ?_
    refine aw_if_ge (tgt := 39) (q := 33) mX7_loose dX7_loose_30 rfl (by decide) (fun c_30 => ?_) (fun c_30 => ?_)
    · have hw : w_lo μ k = 0 := by unfold w_lo; (repeat' split) <;> omega
      rcases h1 with ⟨h0, -⟩ | ⟨-, hx, e1⟩
      · exact absurd hw h0
      refine aw_aload_n (q := 40) mX7_loose dX7_loose_39 rfl rfl ?_
      refine aw_get (t := 2) (ji := 18) (q := 43) mX7_loose dX7_loose_40 rfl f7_50 rfl kd_32 rfl (ly_32_18 hl) ?_
      refine aw_iload_n (q := 44) mX7_loose dX7_loose_43 rfl rfl ?_
      refine aw_iconst (q := 45) mX7_loose dX7_loose_44 rfl rfl ?_
      refine aw_iast (q := 46) mX7_loose dX7_loose_45 rfl kd_42 (by omega) (by omega) (fun μ_45 e_45 => ?_)
      have hl : Lay n1 μ_45 := by rw [e_45]; exact Lay.setA la_42 hl
      refine aw_aload_n (q := 47) mX7_loose dX7_loose_46 rfl rfl ?_
      refine aw_v0 (ci := 7) (q := 50) mX7_loose dX7_loose_47 rfl l7_143 k103_91 rfl kd_32 rfl rfl rfl (pX7_done n1 μ_45) (kset (fun μ4 h4 => ?_))
      refine aw_zret mX7_loose dX7_loose_50 (by first | exact Or.inl rfl | exact Or.inr rfl | assumption | omega) ?_
      have hO : Of (fun a j => (a = 0 ∧ j = 2) ∨ (a = 4 ∧ j = 5) ∨ (a = nf k ∧ j = 9) ∨ (a = 32 ∧ (j = 0 ∨ j = 1 ∨ j = 21)) ∨ (a = 42 ∧ j = k)) μ μ4 := by
        rw [h4, e_45, e_7, e_2, e1]
        exact ((((((Of.rf.set (by omega)).set (by omega)).set (by omega)).set (by omega)).set (by omega)).set (by omega)).set (by omega)
      have v42 : μ4 42 k = -1 := by rw [h4, am_sn (Or.inl (by decide)), e_45, am_ss]
      have u9 : μ4 (nf k) 9 = -1 := by rw [h4, am_sn (Or.inl (by omega)), e_45, am_sn (Or.inl (by omega)), e_7, am_sn (Or.inl (by omega)), e_2, am_sn (Or.inl (by omega)), e1, am_sn (Or.inl (by omega)), am_sn (Or.inl (by omega)), am_ss]
      have v45 : μ4 4 5 = 1 := by rw [h4, am_sn (Or.inl (by decide)), e_45, am_sn (Or.inl (by decide)), e_7, am_sn (Or.inl (by decide)), e_2, am_sn (Or.inl (by decide)), e1, am_sn (Or.inl (by decide)), am_ss]
      have v21 : μ4 32 21 = 0 := by rw [h4, am_ss]
      have vs : μ4 0 2 = μ4 32 0 := by rw [h4, am_sn (Or.inl (by decide)), am_sn (Or.inr (by decide)), e_45, am_sn (Or.inl (by decide)), am_sn (Or.inl (by decide)), e_7, am_sn (Or.inl (by decide)), am_ss, e_2, am_sn (Or.inl (by decide)), e1, am_ss]
      have k34 : μ4 34 k = μ 34 k := hO 34 k (by omega)
      have k35 : μ4 35 k = μ 35 k := hO 35 k (by omega)
      have k36 : μ4 36 k = μ 36 k := hO 36 k (by omega)
      have k37 : μ4 37 k = μ 37 k := hO 37 k (by omega)
      have k38 : μ4 38 k = μ 38 k := hO 38 k (by omega)
      have k39 : μ4 39 k = μ 39 k := hO 39 k (by omega)
      have k40 : μ4 40 k = μ 40 k := hO 40 k (by omega)
      have k41 : μ4 41 k = μ 41 k := hO 41 k (by omega)
      have k42 := v42
      have k43 : μ4 43 k = μ 43 k := hO 43 k (by omega)
      have k44 : ∀ c, μ4 44 c = μ 44 c := fun c => hO 44 c (by omega)
      have f0 : μ4 (nf k) 0 = μ (nf k) 0 := hO (nf k) 0 (by omega)
      have f1 : μ4 (nf k) 1 = μ (nf k) 1 := hO (nf k) 1 (by omega)
      have f2 : μ4 (nf k) 2 = μ (nf k) 2 := hO (nf k) 2 (by omega)
      have f3 : μ4 (nf k) 3 = μ (nf k) 3 := hO (nf k) 3 (by omega)
      have f5 : μ4 (nf k) 5 = μ (nf k) 5 := hO (nf k) 5 (by omega)
      have f6 : μ4 (nf k) 6 = μ (nf k) 6 := hO (nf k) 6 (by omega)
      have f7 : μ4 (nf k) 7 = μ (nf k) 7 := hO (nf k) 7 (by omega)
      have f8 : μ4 (nf k) 8 = μ (nf k) 8 := hO (nf k) 8 (by omega)
      have f9 := u9
      have f10 : μ4 (nf k) 10 = μ (nf k) 10 := hO (nf k) 10 (by omega)
      have kn2 : ∀ c, μ4 (nf k + 1) c = μ (nf k + 1) c := fun c => hO _ c (by omega)
      have k7 : μ4 32 7 = μ 32 7 := hO 32 7 (by omega)
      have hJ2 : J n1 μ4 := hJ.upd (q := k) (Lay_j hJ.1 hO (fun a j z => by (repeat' (refine Or.elim z ?_ ?_ <;> clear z <;> intro z)) <;> first | (obtain ⟨rfl, _⟩ := z; first | exact Sj_0 (by omega) | exact Sj_1 (by omega) (by omega) | exact Sj_32 (by omega) | exact Sj_4 (by omega) (by omega) | exact Sj_2 _ | exact Sj_3 _ | exact Sj_33 (by omega) (by omega) | exact Sj_66 (by omega) (by omega) | exact Sj_w (by omega)) | (subst z; first | exact Sj_2 _ | exact Sj_3 _ | exact Sj_33 (by omega) (by omega) | exact Sj_66 (by omega) (by omega) | exact Sj_w (by omega)) | exact Sj_33 (by omega) (by omega) | exact Sj_66 (by omega) (by omega) | exact Sj_w (by omega))) (fun j _ _ => hO 32 j (by omega)) (fun j _ _ => hO 1 j (by omega)) (fun j => hO 2 j (by omega)) (fun j => hO 3 j (by omega)) (fun j => hO 33 j (by omega)) (fun z z0 z1 hz => ⟨fun a _ _ => hO a z (by omega), fun c _ _ => hO 44 _ (by omega), fun j _ _ => hO _ j (by unfold nf; omega), fun c _ _ => hO _ c (by unfold nf; omega)⟩) (by
        refine ⟨?_, ?_, by rw [k43]; exact hD1.1, by rw [k43]; exact hD1.2⟩
        · unfold Nb
          rw [k34, k35, k36, k37, k38, k39, k40, k41, k42, k7]
          exact ⟨n1', n2, n3, n4, n5, n6, n7, n8, ⟨by omega, by omega⟩, n10, fun c z0 z1 => by rw [k44]; exact n11 c z0 z1, n12⟩
        · unfold Nm
          rw [k34, k35, k36, k37, k38, k39, k40, k41, k42, k43, f0, f1, f2, f3, f5, f6, f7, f8, f9, f10]
          exact ⟨m0, m1, m2, m3, m5, m6, m7, m8, rfl, m10, fun c z0 z1 => by rw [k44, kn2]; exact mc c z0 z1⟩) vs (J.unset v21) (J.stale v45)
      exact ⟨by rw [hx], hJ2⟩
    · have hw : w_lo μ k = 4 := by unfold w_lo; (repeat' split) <;> omega
      obtain ⟨hx, e1⟩ := T 4 (by decide) hw
      refine aw_aload_n (q := 34) mX7_loose dX7_loose_33 rfl rfl ?_
      refine aw_iconst (q := 35) mX7_loose dX7_loose_34 rfl rfl ?_
      refine aw_v1 (ci := 7) (q := 38) mX7_loose dX7_loose_35 rfl l7_139 k103_90 rfl kd_32 rfl rfl rfl (pX7_no n1 μ3 4) (kset (fun μ4 h4 => ?_))
      refine aw_zret mX7_loose dX7_loose_38 (by first | exact Or.inl rfl | exact Or.inr rfl | assumption | omega) ?_
      exact R μ3 μ4 4 hx e1 hw (by rw [e_7, e_2]) h4
  · rw [e8] at hy
    have hw : w_lo μ k = 1 := by unfold w_lo; (repeat' split) <;> omega
    obtain ⟨hx, e1⟩ := T 1 (by decide) hw
    refine aw_aload_n (q := 19) mX7_loose dX7_loose_18 rfl rfl ?_
    refine aw_iconst (q := 20) mX7_loose dX7_loose_19 rfl rfl ?_
    refine aw_v1 (ci := 7) (q := 23) mX7_loose dX7_loose_20 rfl l7_139 k103_90 rfl kd_32 rfl rfl rfl (pX7_no n1 μ3 1) (kset (fun μ4 h4 => ?_))
    refine aw_zret mX7_loose dX7_loose_23 (by first | exact Or.inl rfl | exact Or.inr rfl | assumption | omega) ?_
    exact R μ3 μ4 1 hx e1 hw (by rw [e_7, e_2]) h4
def w_mv (μ : am_M) (k l : Int) : Int := if (0 ≤ k ∧ k < μ 32 8) ∧ (0 ≤ l ∧ l < μ 32 7) then (if μ 34 k = l then 4 else 0) else 1
theorem tX6_move {n : Nat} {μ : am_M} (k l : Int) (hJ : J n μ) : AC 61 [(2, 0), (0, k), (0, l)] n μ (fun r n1 μ1 => ∃ x, r = some (0, x) ∧ n1 = n ∧ (Cr μ (w_mv μ k l) 0 x μ1 ∨ (w_mv μ k l = 0 ∧ x = 1 ∧ μ1 = am_set (am_set (if μ 43 k < l then am_set (am_set μ (nf k) 6 l) (nf k) 10 (-1) else am_set μ (nf k) 6 l) 4 5 1) 0 2 0))) := by
  obtain ⟨hl, hB, hC, hD, hs, hM, hP⟩ := id hJ
  have b6 := hB.2.2.2.2.2.1
  have c2 := hC.2.1.1
  refine AC.of rfl ?_
  refine aw_aload_n (q := 1) mX6_move dX6_move_0 rfl rfl ?_
  refine aw_get (t := 2) (ji := 0) (q := 4) mX6_move dX6_move_1 rfl f6_12 rfl kd_0 rfl (ly_0_0 hl) ?_
  refine aw_iload_n (q := 5) mX6_move dX6_move_4 rfl rfl ?_
  refine aw_v1 (ci := 0) (q := 8) mX6_move dX6_move_5 rfl l6_85 k61_4 rfl kd_1 rfl rfl rfl (pX0_find n μ k hl hB hC) (kref (fun a ha => ?_))
  rcases ha with ⟨ha, k0, k1⟩ | ⟨ha, hn⟩
  · obtain ⟨hN, hm, hr, hD1, h24⟩ := JNb hJ k0 k1
    obtain ⟨m0, m1, m2, m3, m5, m6, m7, m8, m9, m10, mc⟩ := hm
    obtain ⟨-, n2, n3, n4, n5, n6, n7, n8, n9, -⟩ := id hN
    rw [← ha] at hr m0 m1 m2 m3 m5 m6 m7 m8 m9 m10 ⊢
    have hk_a := hr.k
    have hg_a := hr.1
    refine aw_astore_n (q := 9) mX6_move dX6_move_8 rfl (by decide) rfl ?_
    refine aw_aload_n (q := 10) mX6_move dX6_move_9 rfl rfl ?_
    refine aw_ifnull (tgt := 24) (q := 13) mX6_move dX6_move_10 rfl (by decide) (fun c_10 => ?_) (fun c_10 => ?_)
    · exact absurd c_10 (by omega)
    · refine aw_aload_n (q := 14) mX6_move dX6_move_13 rfl rfl ?_
      refine aw_get (t := 2) (ji := 0) (q := 17) mX6_move dX6_move_14 rfl f6_12 rfl kd_0 rfl (ly_0_0 hl) ?_
      refine aw_iload_n (q := 18) mX6_move dX6_move_17 rfl rfl ?_
      refine aw_v1 (ci := 0) (q := 21) mX6_move dX6_move_18 rfl l6_63 k61_3 rfl kd_1 rfl rfl rfl (pX0_hasLine n μ l) (kint (fun y μ3 hy => ?_))
      obtain ⟨hmm, hy⟩ := hy
      subst hmm
      rw [c2] at hy
      refine aw_if_ne (tgt := 30) (q := 24) mX6_move dX6_move_21 rfl (by decide) (fun c_21 => ?_) (fun c_21 => ?_)
      · refine aw_aload_n (q := 31) mX6_move dX6_move_30 rfl rfl ?_
        refine aw_get (t := 0) (ji := 6) (q := 34) mX6_move dX6_move_31 rfl f6_109 rfl hk_a rfl m6 ?_
        refine aw_iload_n (q := 35) mX6_move dX6_move_34 rfl rfl ?_
        refine aw_icmp_ne (tgt := 44) (q := 38) mX6_move dX6_move_35 rfl (by decide) (fun c_35 => ?_) (fun c_35 => ?_)
        · have hw : w_mv μ3 k l = 0 := by unfold w_mv; (repeat' split) <;> omega
          refine aw_aload_n (q := 45) mX6_move dX6_move_44 rfl rfl ?_
          refine aw_iload_n (q := 46) mX6_move dX6_move_45 rfl rfl ?_
          refine aw_put (t := 0) (ji := 6) (q := 49) mX6_move dX6_move_46 rfl f6_109 rfl hk_a rfl (Or.inl rfl) (Or.inl (by decide)) (fun μ_46 e_46 => ?_)
          have hl : Lay n μ_46 := by rw [e_46]; exact Lay.setN hg_a (fun _ => by decide) hl
          refine aw_aload_n (q := 50) mX6_move dX6_move_49 rfl rfl ?_
          refine aw_get (t := 0) (ji := 10) (q := 53) mX6_move dX6_move_50 rfl f6_112 rfl hk_a rfl (rd_sn e_46 (Or.inr (by decide)) m10) ?_
          refine aw_iload_n (q := 54) mX6_move dX6_move_53 rfl rfl ?_
          refine aw_icmp_ge (tgt := 62) (q := 57) mX6_move dX6_move_54 rfl (by decide) (fun c_54 => ?_) (fun c_54 => ?_)
          · refine aw_aload_n (q := 63) mX6_move dX6_move_62 rfl rfl ?_
            refine aw_v0 (ci := 6) (q := 66) mX6_move dX6_move_63 rfl l6_43 k61_80 rfl kd_0 rfl rfl rfl (pX6_accept n μ_46 hl) (kset (fun μ2 h2 => ?_))
            refine aw_zret mX6_move dX6_move_66 (by first | exact Or.inl rfl | exact Or.inr rfl | assumption | omega) ?_
            refine ⟨_, rfl, rfl, Or.inr ⟨hw, rfl, ?_⟩⟩
            rw [if_neg (by omega), h2, e_46]
          · refine aw_aload_n (q := 58) mX6_move dX6_move_57 rfl rfl ?_
            refine aw_iconst (q := 59) mX6_move dX6_move_58 rfl rfl ?_
            refine aw_put (t := 0) (ji := 10) (q := 62) mX6_move dX6_move_59 rfl f6_112 rfl hk_a rfl (Or.inl rfl) (Or.inl (by decide)) (fun μ_59 e_59 => ?_)
            have hl : Lay n μ_59 := by rw [e_59]; exact Lay.setN hg_a (fun _ => by decide) hl
            refine aw_aload_n (q := 63) mX6_move dX6_move_62 rfl rfl ?_
            refine aw_v0 (ci := 6) (q := 66) mX6_move dX6_move_63 rfl l6_43 k61_80 rfl kd_0 rfl rfl rfl (pX6_accept n μ_59 hl) (kset (fun μ2 h2 => ?_))
            refine aw_zret mX6_move dX6_move_66 (by first | exact Or.inl rfl | exact Or.inr rfl | assumption | omega) ?_
            refine ⟨_, rfl, rfl, Or.inr ⟨hw, rfl, ?_⟩⟩
            rw [if_pos (by omega), h2, e_59, e_46]
        · refine aw_aload_n (q := 39) mX6_move dX6_move_38 rfl rfl ?_
          refine aw_iconst (q := 40) mX6_move dX6_move_39 rfl rfl ?_
          refine aw_v1 (ci := 6) (q := 43) mX6_move dX6_move_40 rfl l6_33 k61_81 rfl kd_0 rfl rfl rfl (pX6_refuse n μ3 4) (kset (fun μ2 h2 => ?_))
          refine aw_zret mX6_move dX6_move_43 (by first | exact Or.inl rfl | exact Or.inr rfl | assumption | omega) ?_
          have hw : w_mv μ3 k l = 4 := by unfold w_mv; (repeat' split) <;> omega
          exact ⟨_, rfl, rfl, Or.inl ⟨by rw [hw]; decide, rfl, by rw [hw]; exact h2⟩⟩
      · refine aw_aload_n (q := 25) mX6_move dX6_move_24 rfl rfl ?_
        refine aw_iconst (q := 26) mX6_move dX6_move_25 rfl rfl ?_
        refine aw_v1 (ci := 6) (q := 29) mX6_move dX6_move_26 rfl l6_33 k61_81 rfl kd_0 rfl rfl rfl (pX6_refuse n μ3 1) (kset (fun μ2 h2 => ?_))
        refine aw_zret mX6_move dX6_move_29 (by first | exact Or.inl rfl | exact Or.inr rfl | assumption | omega) ?_
        have hw : w_mv μ3 k l = 1 := by unfold w_mv; (repeat' split) <;> omega
        exact ⟨_, rfl, rfl, Or.inl ⟨by rw [hw]; decide, rfl, by rw [hw]; exact h2⟩⟩
  · refine aw_astore_n (q := 9) mX6_move dX6_move_8 rfl (by decide) rfl ?_
    refine aw_aload_n (q := 10) mX6_move dX6_move_9 rfl rfl ?_
    refine aw_ifnull (tgt := 24) (q := 13) mX6_move dX6_move_10 rfl (by decide) (fun c_10 => ?_) (fun c_10 => ?_)
    · refine aw_aload_n (q := 25) mX6_move dX6_move_24 rfl rfl ?_
      refine aw_iconst (q := 26) mX6_move dX6_move_25 rfl rfl ?_
      refine aw_v1 (ci := 6) (q := 29) mX6_move dX6_move_26 rfl l6_33 k61_81 rfl kd_0 rfl rfl rfl (pX6_refuse n μ 1) (kset (fun μ2 h2 => ?_))
      refine aw_zret mX6_move dX6_move_29 (by first | exact Or.inl rfl | exact Or.inr rfl | assumption | omega) ?_
      have hw : w_mv μ k l = 1 := by unfold w_mv; (repeat' split) <;> omega
      exact ⟨_, rfl, rfl, Or.inl ⟨by rw [hw]; decide, rfl, by rw [hw]; exact h2⟩⟩
    · exact absurd (by omega) c_10
theorem pr_move {n : Nat} {μ : am_M} (k l : Int) (hJ : J n μ) : Prx 61 104 [(0, k), (0, l)] n μ := by
  obtain ⟨hl, hB, hC, hD, hs, hM, hP⟩ := id hJ
  refine Prx.of (tX6_move k l hJ) ?_
  rintro x n1 μ1 ⟨rfl, h1⟩
  have R : ∀ (μ2 μ3 : am_M) (w : Int), x = 0 → μ1 = am_set μ 0 2 (w_mv μ k l) → w_mv μ k l = w → μ2 = am_set (am_set μ1 32 1 0) 32 0 0 → μ3 = am_set μ2 32 0 w → (some ((0 : Nat), (0 : Int)) = some (0, x) ∧ J n1 μ3) := by
    intro μ2 μ3 w hx e1 hw e2 e3
    exact ⟨by rw [hx], hJ.ref (w := w) (by rw [e3, e2, e1, hw])⟩
  have T : ∀ w, w ≠ 0 → w_mv μ k l = w → x = 0 ∧ μ1 = am_set μ 0 2 (w_mv μ k l) := fun w hw0 hw => by
    rcases h1 with ⟨-, hx, e1⟩ | ⟨h0, -⟩
    · exact ⟨hx, e1⟩
    · omega
  have hk3 : Of (fun a j => (a = 0 ∧ j = 2) ∨ (a = 4 ∧ j = 5) ∨ (a = nf k ∧ 5 ≤ j ∧ j ≤ 10)) μ μ1 := by
    rcases h1 with ⟨-, -, e1⟩ | ⟨-, -, e1⟩
    · rw [e1]; exact Of.rf.set (by omega)
    · rw [e1]; exact by split <;> first | exact (((Of.rf.set (by omega)).set (by omega)).set (by omega)).set (by omega) | exact ((Of.rf.set (by omega)).set (by omega)).set (by omega)
  have hnk : 0 ≤ k → 66 ≤ nf k ∧ nf k % 2 = 0 := fun z => by unfold nf; omega
  have hl1 : 0 ≤ k → Lay n1 μ1 := fun z => Lay_j hl hk3 (fun a j y => by have := hnk z; (repeat' (refine Or.elim y ?_ ?_ <;> clear y <;> intro y)) <;> first | (obtain ⟨rfl, _⟩ := y; first | exact Sj_0 (by omega) | exact Sj_1 (by omega) (by omega) | exact Sj_32 (by omega) | exact Sj_4 (by omega) (by omega) | exact Sj_2 _ | exact Sj_3 _ | exact Sj_33 (by omega) (by omega) | exact Sj_66 (by omega) (by omega) | exact Sj_w (by omega)) | (subst y; first | exact Sj_2 _ | exact Sj_3 _ | exact Sj_33 (by omega) (by omega) | exact Sj_66 (by omega) (by omega) | exact Sj_w (by omega)) | exact Sj_33 (by omega) (by omega) | exact Sj_66 (by omega) (by omega) | exact Sj_w (by omega))
  refine AC.of rfl ?_
  refine aw_aload_n (q := 1) mX7_move dX7_move_0 rfl rfl ?_
  refine aw_iconst (q := 2) mX7_move dX7_move_1 rfl rfl ?_
  refine aw_put (t := 0) (ji := 1) (q := 5) mX7_move dX7_move_2 rfl f7_123 rfl kd_32 rfl (Or.inl rfl) (Or.inl (by decide)) (fun μ_2 e_2 => ?_)
  refine aw_aload_n (q := 6) mX7_move dX7_move_5 rfl rfl ?_
  refine aw_iconst (q := 7) mX7_move dX7_move_6 rfl rfl ?_
  refine aw_put (t := 0) (ji := 0) (q := 10) mX7_move dX7_move_7 rfl f7_126 rfl kd_32 rfl (Or.inl rfl) (Or.inl (by decide)) (fun μ_7 e_7 => ?_)
  refine aw_aload_n (q := 11) mX7_move dX7_move_10 rfl rfl ?_
  refine aw_iload_n (q := 12) mX7_move dX7_move_11 rfl rfl ?_
  have hO7 : Of (fun a j => (a = 0 ∧ j = 2) ∨ (a = 4 ∧ j = 5) ∨ (a = nf k ∧ 5 ≤ j ∧ j ≤ 10) ∨ (a = 32 ∧ (j = 0 ∨ j = 1))) μ μ_7 := by
    rw [e_7, e_2]; exact ((hk3.mono (fun a j z => by omega)).set (by omega)).set (by omega)
  have hin := pX7_isNote n1 μ_7 k
  refine aw_v1 (ci := 7) (q := 15) mX7_move dX7_move_12 rfl l7_154 k104_93 rfl kd_32 rfl rfl rfl (hin) (kint (fun y μ3 hy => ?_))
  obtain ⟨hm3, hy⟩ := hy
  subst hm3
  have e8 : μ3 32 8 = μ 32 8 := by
    by_cases z0 : 0 ≤ k
    · exact hO7 32 8 (by unfold nf; omega)
    · rcases h1 with ⟨-, -, e1⟩ | ⟨h0, -⟩
      · rw [e_7, e_2, e1, am_sn (Or.inr (by decide)), am_sn (Or.inr (by decide)), am_sn (Or.inl (by decide))]
      · unfold w_mv at h0
        rw [if_neg (by omega)] at h0
        exact absurd h0 (by decide)
  have N1 : ∀ L, w_mv μ k l = 1 → L = [(2, 32), (0, k), (0, l)] → AW none 104 26 L [] n1 μ3 (fun r' n2 μ2 => r' = some (0, x) ∧ J n2 μ2) := by
    intro L hw hL
    subst hL
    obtain ⟨hx, e1⟩ := T 1 (by decide) hw
    refine aw_aload_n (q := 27) mX7_move dX7_move_26 rfl rfl ?_
    refine aw_iconst (q := 28) mX7_move dX7_move_27 rfl rfl ?_
    refine aw_v1 (ci := 7) (q := 31) mX7_move dX7_move_28 rfl l7_139 k104_90 rfl kd_32 rfl rfl rfl (pX7_no n1 μ3 1) (kset (fun μ4 h4 => ?_))
    refine aw_zret mX7_move dX7_move_31 (by first | exact Or.inl rfl | exact Or.inr rfl | assumption | omega) ?_
    exact R μ3 μ4 1 hx e1 hw (by rw [e_7, e_2]) h4
  refine aw_if_eq (tgt := 26) (q := 18) mX7_move dX7_move_15 rfl (by decide) (fun c_15 => ?_) (fun c_15 => ?_)
  · rw [e8] at hy
    exact N1 _ (by unfold w_mv; (repeat' split) <;> omega) rfl
  · rw [e8] at hy
    have k0 : 0 ≤ k := by omega
    have k1 : k < μ 32 8 := by omega
    have hl := hl1 k0
    obtain ⟨hr66, hre⟩ := hnk k0
    have hl : Lay n1 μ3 := Lay_j hJ.1 hO7 (fun a j z => by (repeat' (refine Or.elim z ?_ ?_ <;> clear z <;> intro z)) <;> first | (obtain ⟨rfl, _⟩ := z; first | exact Sj_0 (by omega) | exact Sj_1 (by omega) (by omega) | exact Sj_32 (by omega) | exact Sj_4 (by omega) (by omega) | exact Sj_2 _ | exact Sj_3 _ | exact Sj_33 (by omega) (by omega) | exact Sj_66 (by omega) (by omega) | exact Sj_w (by omega)) | (subst z; first | exact Sj_2 _ | exact Sj_3 _ | exact Sj_33 (by omega) (by omega) | exact Sj_66 (by omega) (by omega) | exact Sj_w (by omega)) | exact Sj_33 (by omega) (by omega) | exact Sj_66 (by omega) (by omega) | exact Sj_w (by omega))
    obtain ⟨hN, hm, hr, hD1, h24⟩ := JNb hJ k0 k1
    obtain ⟨m0, m1, m2, m3, m5, m6, m7, m8, m9, m10, mc⟩ := id hm
    obtain ⟨n1', n2, n3, n4, n5, n6, n7, n8, n9, n10, n11, n12⟩ := id hN
    have e7 : μ3 32 7 = μ 32 7 := hO7 32 7 (by omega)
    have e34 : μ3 34 k = μ 34 k := hO7 34 k (by omega)
    have e43 : μ3 43 k = μ 43 k := hO7 43 k (by omega)
    have hil := pX7_isLineB n1 μ3 l hl
    rw [e7] at hil
    refine aw_aload_n (q := 19) mX7_move dX7_move_18 rfl rfl ?_
    refine aw_iload_n (q := 20) mX7_move dX7_move_19 rfl rfl ?_
    refine aw_v1 (ci := 7) (q := 23) mX7_move dX7_move_20 rfl l7_151 k104_92 rfl kd_32 rfl rfl rfl (hil) (kint (fun y' μ5 hy' => ?_))
    obtain ⟨hm5, hy'⟩ := hy'
    subst hm5
    refine aw_if_ne (tgt := 32) (q := 26) mX7_move dX7_move_23 rfl (by decide) (fun c_23 => ?_) (fun c_23 => ?_)
    · refine aw_aload_n (q := 33) mX7_move dX7_move_32 rfl rfl ?_
      refine aw_get (t := 2) (ji := 10) (q := 36) mX7_move dX7_move_33 rfl f7_26 rfl kd_32 rfl (ly_32_10 hl) ?_
      refine aw_iload_n (q := 37) mX7_move dX7_move_36 rfl rfl ?_
      refine aw_iald (q := 38) mX7_move dX7_move_37 rfl kd_34 (by omega) (by omega) e34 ?_
      refine aw_iload_n (q := 39) mX7_move dX7_move_38 rfl rfl ?_
      refine aw_icmp_ne (tgt := 48) (q := 42) mX7_move dX7_move_39 rfl (by decide) (fun c_39 => ?_) (fun c_39 => ?_)
      · have hw : w_mv μ k l = 0 := by unfold w_mv; (repeat' split) <;> omega
        rcases h1 with ⟨h0, -⟩ | ⟨-, hx, e1⟩
        · exact absurd hw h0
        -- both have it: what the bound becomes
        have Z : ∀ (μ4 : am_M) (bn : Int), bn = (if μ 43 k < l then -1 else μ 43 k) → μ4 = am_set (am_set (am_set μ5 34 k l) 43 k bn) 32 21 0 ∨ (bn = μ 43 k ∧ μ4 = am_set (am_set μ5 34 k l) 32 21 0) → J n1 μ4 := by
          intro μ4 bn hbn h4
          have hO : Of (fun a j => (a = 0 ∧ j = 2) ∨ (a = 4 ∧ j = 5) ∨ (a = nf k ∧ (j = 6 ∨ j = 10)) ∨ (a = 32 ∧ (j = 0 ∨ j = 1 ∨ j = 21)) ∨ (a = 34 ∧ j = k) ∨ (a = 43 ∧ j = k)) μ μ4 := by
            have h5 : Of (fun a j => (a = 0 ∧ j = 2) ∨ (a = 4 ∧ j = 5) ∨ (a = nf k ∧ (j = 6 ∨ j = 10)) ∨ (a = 32 ∧ (j = 0 ∨ j = 1 ∨ j = 21)) ∨ (a = 34 ∧ j = k) ∨ (a = 43 ∧ j = k)) μ μ5 := by
              rw [e_7, e_2, e1]
              split
              · exact (((((Of.rf.set (by omega)).set (by omega)).set (by omega)).set (by omega)).set (by omega)).set (by omega)
              · exact ((((Of.rf.set (by omega)).set (by omega)).set (by omega)).set (by omega)).set (by omega)
            rcases h4 with h4 | ⟨-, h4⟩
            · rw [h4]; exact ((h5.set (by omega)).set (by omega)).set (by omega)
            · rw [h4]; exact (h5.set (by omega)).set (by omega)
          have w5 : ∀ a j, a ≠ 34 → a ≠ 43 → ¬ (a = 32 ∧ j = 21) → μ4 a j = μ5 a j := fun a j q1 q2 q3 => by
            rcases h4 with h4 | ⟨-, h4⟩
            · rw [h4, am_sn (by omega), am_sn (Or.inl q2), am_sn (Or.inl q1)]
            · rw [h4, am_sn (by omega), am_sn (Or.inl q1)]
          have v34 : μ4 34 k = l := by
            rcases h4 with h4 | ⟨-, h4⟩
            · rw [h4, am_sn (Or.inl (by decide)), am_sn (Or.inl (by decide)), am_ss]
            · rw [h4, am_sn (Or.inl (by decide)), am_ss]
          have v43 : μ4 43 k = bn := by
            rcases h4 with h4 | ⟨hb4, h4⟩
            · rw [h4, am_sn (Or.inl (by decide)), am_ss]
            · rw [h4, am_sn (Or.inl (by decide)), am_sn (Or.inl (by decide)), e43, hb4]
          have v1 : ∀ a j, a ≠ 32 → μ5 a j = μ1 a j := fun a j q => by rw [e_7, am_sn (Or.inl q), e_2, am_sn (Or.inl q)]
          have u6 : μ4 (nf k) 6 = l := by
            rw [w5 _ _ (by omega) (by omega) (by omega), v1 _ _ (by omega), e1, am_sn (Or.inl (by omega)), am_sn (Or.inl (by omega))]
            split
            · rw [am_sn (Or.inr (by decide)), am_ss]
            · rw [am_ss]
          have u10 : μ4 (nf k) 10 = bn := by
            rw [w5 _ _ (by omega) (by omega) (by omega), v1 _ _ (by omega), e1, am_sn (Or.inl (by omega)), am_sn (Or.inl (by omega)), hbn]
            split
            · rw [am_ss]
            · rw [am_sn (Or.inr (by decide)), m10]
          have v45 : μ4 4 5 = 1 := by rw [w5 _ _ (by omega) (by omega) (by omega), v1 _ _ (by omega), e1, am_sn (Or.inl (by decide)), am_ss]
          have v21 : μ4 32 21 = 0 := by
            rcases h4 with h4 | ⟨-, h4⟩ <;> rw [h4, am_ss]
          have vs : μ4 0 2 = μ4 32 0 := by rw [w5 0 2 (by omega) (by omega) (by omega), w5 32 0 (by omega) (by omega) (by omega), v1 _ _ (by omega), e1, am_ss, e_7, am_ss]
          have hbb : -1 ≤ bn ∧ bn < μ 32 7 := by rw [hbn]; split <;> omega
          have k34 := v34
          have k35 : μ4 35 k = μ 35 k := hO 35 k (by omega)
          have k36 : μ4 36 k = μ 36 k := hO 36 k (by omega)
          have k37 : μ4 37 k = μ 37 k := hO 37 k (by omega)
          have k38 : μ4 38 k = μ 38 k := hO 38 k (by omega)
          have k39 : μ4 39 k = μ 39 k := hO 39 k (by omega)
          have k40 : μ4 40 k = μ 40 k := hO 40 k (by omega)
          have k41 : μ4 41 k = μ 41 k := hO 41 k (by omega)
          have k42 : μ4 42 k = μ 42 k := hO 42 k (by omega)
          have k43 := v43
          have k44 : ∀ c, μ4 44 c = μ 44 c := fun c => hO 44 c (by omega)
          have f0 : μ4 (nf k) 0 = μ (nf k) 0 := hO (nf k) 0 (by omega)
          have f1 : μ4 (nf k) 1 = μ (nf k) 1 := hO (nf k) 1 (by omega)
          have f2 : μ4 (nf k) 2 = μ (nf k) 2 := hO (nf k) 2 (by omega)
          have f3 : μ4 (nf k) 3 = μ (nf k) 3 := hO (nf k) 3 (by omega)
          have f5 : μ4 (nf k) 5 = μ (nf k) 5 := hO (nf k) 5 (by omega)
          have f6 := u6
          have f7 : μ4 (nf k) 7 = μ (nf k) 7 := hO (nf k) 7 (by omega)
          have f8 : μ4 (nf k) 8 = μ (nf k) 8 := hO (nf k) 8 (by omega)
          have f9 : μ4 (nf k) 9 = μ (nf k) 9 := hO (nf k) 9 (by omega)
          have f10 := u10
          have kn2 : ∀ c, μ4 (nf k + 1) c = μ (nf k + 1) c := fun c => hO _ c (by omega)
          have k7 : μ4 32 7 = μ 32 7 := hO 32 7 (by omega)
          have hJ2 : J n1 μ4 := hJ.upd (q := k) (Lay_j hJ.1 hO (fun a j z => by (repeat' (refine Or.elim z ?_ ?_ <;> clear z <;> intro z)) <;> first | (obtain ⟨rfl, _⟩ := z; first | exact Sj_0 (by omega) | exact Sj_1 (by omega) (by omega) | exact Sj_32 (by omega) | exact Sj_4 (by omega) (by omega) | exact Sj_2 _ | exact Sj_3 _ | exact Sj_33 (by omega) (by omega) | exact Sj_66 (by omega) (by omega) | exact Sj_w (by omega)) | (subst z; first | exact Sj_2 _ | exact Sj_3 _ | exact Sj_33 (by omega) (by omega) | exact Sj_66 (by omega) (by omega) | exact Sj_w (by omega)) | exact Sj_33 (by omega) (by omega) | exact Sj_66 (by omega) (by omega) | exact Sj_w (by omega))) (fun j _ _ => hO 32 j (by omega)) (fun j _ _ => hO 1 j (by omega)) (fun j => hO 2 j (by omega)) (fun j => hO 3 j (by omega)) (fun j => hO 33 j (by omega)) (fun z z0 z1 hz => ⟨fun a _ _ => hO a z (by omega), fun c _ _ => hO 44 _ (by omega), fun j _ _ => hO _ j (by unfold nf; omega), fun c _ _ => hO _ c (by unfold nf; omega)⟩) (by
            refine ⟨?_, ?_, by rw [k43]; exact hbb.1, by rw [k43]; exact hbb.2⟩
            · unfold Nb
              rw [k34, k35, k36, k37, k38, k39, k40, k41, k42, k7]
              exact ⟨⟨by omega, by omega⟩, n2, n3, n4, n5, n6, n7, n8, n9, n10, fun c z0 z1 => by rw [k44]; exact n11 c z0 z1, n12⟩
            · unfold Nm
              rw [k34, k35, k36, k37, k38, k39, k40, k41, k42, k43, f0, f1, f2, f3, f5, f6, f7, f8, f9, f10]
              exact ⟨m0, m1, m2, m3, m5, rfl, m7, m8, m9, rfl, fun c z0 z1 => by rw [k44, kn2]; exact mc c z0 z1⟩) vs (J.unset v21) (J.stale v45)
          exact hJ2
        refine aw_aload_n (q := 49) mX7_move dX7_move_48 rfl rfl ?_
        refine aw_get (t := 2) (ji := 10) (q := 52) mX7_move dX7_move_49 rfl f7_26 rfl kd_32 rfl (ly_32_10 hl) ?_
        refine aw_iload_n (q := 53) mX7_move dX7_move_52 rfl rfl ?_
        refine aw_iload_n (q := 54) mX7_move dX7_move_53 rfl rfl ?_
        refine aw_iast (q := 55) mX7_move dX7_move_54 rfl kd_34 (by omega) (by omega) (fun μ_54 e_54 => ?_)
        have hl : Lay n1 μ_54 := by rw [e_54]; exact Lay.setA la_34 hl
        refine aw_aload_n (q := 56) mX7_move dX7_move_55 rfl rfl ?_
        refine aw_get (t := 2) (ji := 19) (q := 59) mX7_move dX7_move_56 rfl f7_53 rfl kd_32 rfl (ly_32_19 hl) ?_
        refine aw_iload_n (q := 60) mX7_move dX7_move_59 rfl rfl ?_
        refine aw_iald (q := 61) mX7_move dX7_move_60 rfl kd_43 (by omega) (by omega) (rd_sn e_54 (Or.inl (by decide)) e43) ?_
        refine aw_if_lt (tgt := 81) (q := 64) mX7_move dX7_move_61 rfl (by decide) (fun c_61 => ?_) (fun c_61 => ?_)
        · refine aw_aload_n (q := 82) mX7_move dX7_move_81 rfl rfl ?_
          refine aw_v0 (ci := 7) (q := 85) mX7_move dX7_move_82 rfl l7_143 k104_91 rfl kd_32 rfl rfl rfl (pX7_done n1 μ_54) (kset (fun μ4 h4 => ?_))
          refine aw_zret mX7_move dX7_move_85 (by first | exact Or.inl rfl | exact Or.inr rfl | assumption | omega) ?_
          exact ⟨by rw [hx], Z μ4 (μ 43 k) (by split <;> omega) (Or.inr ⟨rfl, by rw [h4, e_54]⟩)⟩
        · refine aw_aload_n (q := 65) mX7_move dX7_move_64 rfl rfl ?_
          refine aw_get (t := 2) (ji := 19) (q := 68) mX7_move dX7_move_65 rfl f7_53 rfl kd_32 rfl (ly_32_19 hl) ?_
          refine aw_iload_n (q := 69) mX7_move dX7_move_68 rfl rfl ?_
          refine aw_iald (q := 70) mX7_move dX7_move_69 rfl kd_43 (by omega) (by omega) (rd_sn e_54 (Or.inl (by decide)) e43) ?_
          refine aw_iload_n (q := 71) mX7_move dX7_move_70 rfl rfl ?_
          refine aw_icmp_ge (tgt := 81) (q := 74) mX7_move dX7_move_71 rfl (by decide) (fun c_71 => ?_) (fun c_71 => ?_)
          · refine aw_aload_n (q := 82) mX7_move dX7_move_81 rfl rfl ?_
            refine aw_v0 (ci := 7) (q := 85) mX7_move dX7_move_82 rfl l7_143 k104_91 rfl kd_32 rfl rfl rfl (pX7_done n1 μ_54) (kset (fun μ4 h4 => ?_))
            refine aw_zret mX7_move dX7_move_85 (by first | exact Or.inl rfl | exact Or.inr rfl | assumption | omega) ?_
            exact ⟨by rw [hx], Z μ4 (μ 43 k) (by split <;> omega) (Or.inr ⟨rfl, by rw [h4, e_54]⟩)⟩
          · refine aw_aload_n (q := 75) mX7_move dX7_move_74 rfl rfl ?_
            refine aw_get (t := 2) (ji := 19) (q := 78) mX7_move dX7_move_75 rfl f7_53 rfl kd_32 rfl (ly_32_19 hl) ?_
            refine aw_iload_n (q := 79) mX7_move dX7_move_78 rfl rfl ?_
            refine aw_iconst (q := 80) mX7_move dX7_move_79 rfl rfl ?_
            refine aw_iast (q := 81) mX7_move dX7_move_80 rfl kd_43 (by omega) (by omega) (fun μ_80 e_80 => ?_)
            have hl : Lay n1 μ_80 := by rw [e_80]; exact Lay.setA la_43 hl
            refine aw_aload_n (q := 82) mX7_move dX7_move_81 rfl rfl ?_
            refine aw_v0 (ci := 7) (q := 85) mX7_move dX7_move_82 rfl l7_143 k104_91 rfl kd_32 rfl rfl rfl (pX7_done n1 μ_80) (kset (fun μ4 h4 => ?_))
            refine aw_zret mX7_move dX7_move_85 (by first | exact Or.inl rfl | exact Or.inr rfl | assumption | omega) ?_
            exact ⟨by rw [hx], Z μ4 (-1) (by split <;> omega) (Or.inl (by rw [h4, e_80, e_54]))⟩
      · have hw : w_mv μ k l = 4 := by unfold w_mv; (repeat' split) <;> omega
        obtain ⟨hx, e1⟩ := T 4 (by decide) hw
        refine aw_aload_n (q := 43) mX7_move dX7_move_42 rfl rfl ?_
        refine aw_iconst (q := 44) mX7_move dX7_move_43 rfl rfl ?_
        refine aw_v1 (ci := 7) (q := 47) mX7_move dX7_move_44 rfl l7_139 k104_90 rfl kd_32 rfl rfl rfl (pX7_no n1 μ5 4) (kset (fun μ4 h4 => ?_))
        refine aw_zret mX7_move dX7_move_47 (by first | exact Or.inl rfl | exact Or.inr rfl | assumption | omega) ?_
        exact R μ5 μ4 4 hx e1 hw (by rw [e_7, e_2]) h4
    · exact N1 _ (by unfold w_mv; (repeat' split) <;> omega) rfl
def w_bi (μ : am_M) (k l : Int) : Int := if (0 ≤ k ∧ k < μ 32 8) ∧ (l = -1 ∨ (0 ≤ l ∧ l < μ 32 7)) then (if l ≠ -1 ∧ l < μ 34 k then 2 else 0) else 1
theorem tX6_bind {n : Nat} {μ : am_M} (k l : Int) (hJ : J n μ) : AC 58 [(2, 0), (0, k), (0, l)] n μ (fun r n1 μ1 => ∃ x, r = some (0, x) ∧ n1 = n ∧ (Cr μ (w_bi μ k l) 0 x μ1 ∨ (w_bi μ k l = 0 ∧ x = 1 ∧ μ1 = am_set (am_set μ (nf k) 10 l) 0 2 0))) := by
  obtain ⟨hl, hB, hC, hD, hs, hM, hP⟩ := id hJ
  have b6 := hB.2.2.2.2.2.1
  have c2 := hC.2.1.1
  refine AC.of rfl ?_
  refine aw_aload_n (q := 1) mX6_bind dX6_bind_0 rfl rfl ?_
  refine aw_get (t := 2) (ji := 0) (q := 4) mX6_bind dX6_bind_1 rfl f6_12 rfl kd_0 rfl (ly_0_0 hl) ?_
  refine aw_iload_n (q := 5) mX6_bind dX6_bind_4 rfl rfl ?_
  refine aw_v1 (ci := 0) (q := 8) mX6_bind dX6_bind_5 rfl l6_85 k58_4 rfl kd_1 rfl rfl rfl (pX0_find n μ k hl hB hC) (kref (fun a ha => ?_))
  rcases ha with ⟨ha, k0, k1⟩ | ⟨ha, hn⟩
  · obtain ⟨hN, hm, hr, hD1, h24⟩ := JNb hJ k0 k1
    obtain ⟨m0, m1, m2, m3, m5, m6, m7, m8, m9, m10, mc⟩ := hm
    obtain ⟨-, n2, n3, n4, n5, n6, n7, n8, n9, -⟩ := id hN
    rw [← ha] at hr m0 m1 m2 m3 m5 m6 m7 m8 m9 m10 ⊢
    have hk_a := hr.k
    have hg_a := hr.1
    have OKb : ∀ L, (l = -1 ∨ (0 ≤ l ∧ l < μ 32 7)) → L = [(2, 0), (0, k), (0, l), (2, a)] → AW none 58 35 L [] n μ (fun r n1 μ1 => ∃ x, r = some (0, x) ∧ n1 = n ∧ (Cr μ (w_bi μ k l) 0 x μ1 ∨ (w_bi μ k l = 0 ∧ x = 1 ∧ μ1 = am_set (am_set μ a 10 l) 0 2 0))) := by
      intro L hll hL
      subst hL
      have OK2 : ∀ L, (l = -1 ∨ μ 34 k ≤ l) → L = [(2, 0), (0, k), (0, l), (2, a)] → AW none 58 54 L [] n μ (fun r n1 μ1 => ∃ x, r = some (0, x) ∧ n1 = n ∧ (Cr μ (w_bi μ k l) 0 x μ1 ∨ (w_bi μ k l = 0 ∧ x = 1 ∧ μ1 = am_set (am_set μ a 10 l) 0 2 0))) := by
        intro L h34 hL
        subst hL
        refine aw_aload_n (q := 55) mX6_bind dX6_bind_54 rfl rfl ?_
        refine aw_iload_n (q := 56) mX6_bind dX6_bind_55 rfl rfl ?_
        refine aw_put (t := 0) (ji := 10) (q := 59) mX6_bind dX6_bind_56 rfl f6_112 rfl hk_a rfl (Or.inl rfl) (Or.inl (by decide)) (fun μ_56 e_56 => ?_)
        have hl : Lay n μ_56 := by rw [e_56]; exact Lay.setN hg_a (fun _ => by decide) hl
        refine aw_aload_n (q := 60) mX6_bind dX6_bind_59 rfl rfl ?_
        refine aw_iload_n (q := 61) mX6_bind dX6_bind_60 rfl rfl ?_
        refine aw_v1 (ci := 6) (q := 64) mX6_bind dX6_bind_61 rfl l6_60 k58_82 rfl kd_0 rfl rfl rfl (pX6_give n μ_56 l) (kset (fun μ2 h2 => ?_))
        refine aw_pop (q := 65) mX6_bind dX6_bind_64 rfl ?_
        refine aw_iconst (q := 66) mX6_bind dX6_bind_65 rfl rfl ?_
        refine aw_zret mX6_bind dX6_bind_66 (by first | exact Or.inl rfl | exact Or.inr rfl | assumption | omega) ?_
        exact ⟨_, rfl, rfl, Or.inr ⟨by unfold w_bi; (repeat' split) <;> omega, rfl, by rw [h2, e_56]⟩⟩
      refine aw_iload_n (q := 36) mX6_bind dX6_bind_35 rfl rfl ?_
      refine aw_iconst (q := 37) mX6_bind dX6_bind_36 rfl rfl ?_
      refine aw_icmp_eq (tgt := 54) (q := 40) mX6_bind dX6_bind_37 rfl (by decide) (fun c_37 => ?_) (fun c_37 => ?_)
      · exact OK2 _ (Or.inl c_37) rfl
      · refine aw_iload_n (q := 41) mX6_bind dX6_bind_40 rfl rfl ?_
        refine aw_aload_n (q := 42) mX6_bind dX6_bind_41 rfl rfl ?_
        refine aw_get (t := 0) (ji := 6) (q := 45) mX6_bind dX6_bind_42 rfl f6_109 rfl hk_a rfl m6 ?_
        refine aw_icmp_ge (tgt := 54) (q := 48) mX6_bind dX6_bind_45 rfl (by decide) (fun c_45 => ?_) (fun c_45 => ?_)
        · exact OK2 _ (Or.inr (by omega)) rfl
        · refine aw_aload_n (q := 49) mX6_bind dX6_bind_48 rfl rfl ?_
          refine aw_iconst (q := 50) mX6_bind dX6_bind_49 rfl rfl ?_
          refine aw_v1 (ci := 6) (q := 53) mX6_bind dX6_bind_50 rfl l6_33 k58_81 rfl kd_0 rfl rfl rfl (pX6_refuse n μ 2) (kset (fun μ2 h2 => ?_))
          refine aw_zret mX6_bind dX6_bind_53 (by first | exact Or.inl rfl | exact Or.inr rfl | assumption | omega) ?_
          have hw : w_bi μ k l = 2 := by unfold w_bi; (repeat' split) <;> omega
          exact ⟨_, rfl, rfl, Or.inl ⟨by rw [hw]; decide, rfl, by rw [hw]; exact h2⟩⟩
    refine aw_astore_n (q := 9) mX6_bind dX6_bind_8 rfl (by decide) rfl ?_
    refine aw_aload_n (q := 10) mX6_bind dX6_bind_9 rfl rfl ?_
    refine aw_ifnull (tgt := 29) (q := 13) mX6_bind dX6_bind_10 rfl (by decide) (fun c_10 => ?_) (fun c_10 => ?_)
    · exact absurd c_10 (by omega)
    · refine aw_iload_n (q := 14) mX6_bind dX6_bind_13 rfl rfl ?_
      refine aw_iconst (q := 15) mX6_bind dX6_bind_14 rfl rfl ?_
      refine aw_icmp_eq (tgt := 35) (q := 18) mX6_bind dX6_bind_15 rfl (by decide) (fun c_15 => ?_) (fun c_15 => ?_)
      · exact OKb _ (Or.inl c_15) rfl
      · refine aw_aload_n (q := 19) mX6_bind dX6_bind_18 rfl rfl ?_
        refine aw_get (t := 2) (ji := 0) (q := 22) mX6_bind dX6_bind_19 rfl f6_12 rfl kd_0 rfl (ly_0_0 hl) ?_
        refine aw_iload_n (q := 23) mX6_bind dX6_bind_22 rfl rfl ?_
        refine aw_v1 (ci := 0) (q := 26) mX6_bind dX6_bind_23 rfl l6_63 k58_3 rfl kd_1 rfl rfl rfl (pX0_hasLine n μ l) (kint (fun y μ3 hy => ?_))
        obtain ⟨hmm, hy⟩ := hy
        subst hmm
        rw [c2] at hy
        refine aw_if_ne (tgt := 35) (q := 29) mX6_bind dX6_bind_26 rfl (by decide) (fun c_26 => ?_) (fun c_26 => ?_)
        · exact OKb _ (Or.inr (by omega)) rfl
        · refine aw_aload_n (q := 30) mX6_bind dX6_bind_29 rfl rfl ?_
          refine aw_iconst (q := 31) mX6_bind dX6_bind_30 rfl rfl ?_
          refine aw_v1 (ci := 6) (q := 34) mX6_bind dX6_bind_31 rfl l6_33 k58_81 rfl kd_0 rfl rfl rfl (pX6_refuse n μ3 1) (kset (fun μ2 h2 => ?_))
          refine aw_zret mX6_bind dX6_bind_34 (by first | exact Or.inl rfl | exact Or.inr rfl | assumption | omega) ?_
          have hw : w_bi μ3 k l = 1 := by unfold w_bi; (repeat' split) <;> omega
          exact ⟨_, rfl, rfl, Or.inl ⟨by rw [hw]; decide, rfl, by rw [hw]; exact h2⟩⟩
  · refine aw_astore_n (q := 9) mX6_bind dX6_bind_8 rfl (by decide) rfl ?_
    refine aw_aload_n (q := 10) mX6_bind dX6_bind_9 rfl rfl ?_
    refine aw_ifnull (tgt := 29) (q := 13) mX6_bind dX6_bind_10 rfl (by decide) (fun c_10 => ?_) (fun c_10 => ?_)
    · refine aw_aload_n (q := 30) mX6_bind dX6_bind_29 rfl rfl ?_
      refine aw_iconst (q := 31) mX6_bind dX6_bind_30 rfl rfl ?_
      refine aw_v1 (ci := 6) (q := 34) mX6_bind dX6_bind_31 rfl l6_33 k58_81 rfl kd_0 rfl rfl rfl (pX6_refuse n μ 1) (kset (fun μ2 h2 => ?_))
      refine aw_zret mX6_bind dX6_bind_34 (by first | exact Or.inl rfl | exact Or.inr rfl | assumption | omega) ?_
      have hw : w_bi μ k l = 1 := by unfold w_bi; (repeat' split) <;> omega
      exact ⟨_, rfl, rfl, Or.inl ⟨by rw [hw]; decide, rfl, by rw [hw]; exact h2⟩⟩
    · exact absurd (by omega) c_10
theorem pr_bind {n : Nat} {μ : am_M} (k l : Int) (hJ : J n μ) : Prx 58 101 [(0, k), (0, l)] n μ := by
  obtain ⟨hl, hB, hC, hD, hs, hM, hP⟩ := id hJ
  refine Prx.of (tX6_bind k l hJ) ?_
  rintro x n1 μ1 ⟨rfl, h1⟩
  have R : ∀ (μ2 μ3 : am_M) (w : Int), x = 0 → μ1 = am_set μ 0 2 (w_bi μ k l) → w_bi μ k l = w → μ2 = am_set (am_set μ1 32 1 0) 32 0 0 → μ3 = am_set μ2 32 0 w → (some ((0 : Nat), (0 : Int)) = some (0, x) ∧ J n1 μ3) := by
    intro μ2 μ3 w hx e1 hw e2 e3
    exact ⟨by rw [hx], hJ.ref (w := w) (by rw [e3, e2, e1, hw])⟩
  have T : ∀ w, w ≠ 0 → w_bi μ k l = w → x = 0 ∧ μ1 = am_set μ 0 2 (w_bi μ k l) := fun w hw0 hw => by
    rcases h1 with ⟨-, hx, e1⟩ | ⟨h0, -⟩
    · exact ⟨hx, e1⟩
    · omega
  have hk3 : Of (fun a j => (a = 0 ∧ j = 2) ∨ (a = 4 ∧ j = 5) ∨ (a = nf k ∧ 5 ≤ j ∧ j ≤ 10)) μ μ1 := by
    rcases h1 with ⟨-, -, e1⟩ | ⟨-, -, e1⟩
    · rw [e1]; exact Of.rf.set (by omega)
    · rw [e1]; exact (Of.rf.set (by omega)).set (by omega)
  have hnk : 0 ≤ k → 66 ≤ nf k ∧ nf k % 2 = 0 := fun z => by unfold nf; omega
  have hl1 : 0 ≤ k → Lay n1 μ1 := fun z => Lay_j hl hk3 (fun a j y => by have := hnk z; (repeat' (refine Or.elim y ?_ ?_ <;> clear y <;> intro y)) <;> first | (obtain ⟨rfl, _⟩ := y; first | exact Sj_0 (by omega) | exact Sj_1 (by omega) (by omega) | exact Sj_32 (by omega) | exact Sj_4 (by omega) (by omega) | exact Sj_2 _ | exact Sj_3 _ | exact Sj_33 (by omega) (by omega) | exact Sj_66 (by omega) (by omega) | exact Sj_w (by omega)) | (subst y; first | exact Sj_2 _ | exact Sj_3 _ | exact Sj_33 (by omega) (by omega) | exact Sj_66 (by omega) (by omega) | exact Sj_w (by omega)) | exact Sj_33 (by omega) (by omega) | exact Sj_66 (by omega) (by omega) | exact Sj_w (by omega))
  refine AC.of rfl ?_
  refine aw_aload_n (q := 1) mX7_bind dX7_bind_0 rfl rfl ?_
  refine aw_iconst (q := 2) mX7_bind dX7_bind_1 rfl rfl ?_
  refine aw_put (t := 0) (ji := 1) (q := 5) mX7_bind dX7_bind_2 rfl f7_123 rfl kd_32 rfl (Or.inl rfl) (Or.inl (by decide)) (fun μ_2 e_2 => ?_)
  refine aw_aload_n (q := 6) mX7_bind dX7_bind_5 rfl rfl ?_
  refine aw_iconst (q := 7) mX7_bind dX7_bind_6 rfl rfl ?_
  refine aw_put (t := 0) (ji := 0) (q := 10) mX7_bind dX7_bind_7 rfl f7_126 rfl kd_32 rfl (Or.inl rfl) (Or.inl (by decide)) (fun μ_7 e_7 => ?_)
  refine aw_aload_n (q := 11) mX7_bind dX7_bind_10 rfl rfl ?_
  refine aw_iload_n (q := 12) mX7_bind dX7_bind_11 rfl rfl ?_
  have hO7 : Of (fun a j => (a = 0 ∧ j = 2) ∨ (a = 4 ∧ j = 5) ∨ (a = nf k ∧ 5 ≤ j ∧ j ≤ 10) ∨ (a = 32 ∧ (j = 0 ∨ j = 1))) μ μ_7 := by
    rw [e_7, e_2]; exact ((hk3.mono (fun a j z => by omega)).set (by omega)).set (by omega)
  have hin := pX7_isNote n1 μ_7 k
  refine aw_v1 (ci := 7) (q := 15) mX7_bind dX7_bind_12 rfl l7_154 k101_93 rfl kd_32 rfl rfl rfl (hin) (kint (fun y μ3 hy => ?_))
  obtain ⟨hm3, hy⟩ := hy
  subst hm3
  have e8 : μ3 32 8 = μ 32 8 := by
    by_cases z0 : 0 ≤ k
    · exact hO7 32 8 (by unfold nf; omega)
    · rcases h1 with ⟨-, -, e1⟩ | ⟨h0, -⟩
      · rw [e_7, e_2, e1, am_sn (Or.inr (by decide)), am_sn (Or.inr (by decide)), am_sn (Or.inl (by decide))]
      · unfold w_bi at h0
        rw [if_neg (by omega)] at h0
        exact absurd h0 (by decide)
  have N1 : ∀ L, w_bi μ k l = 1 → L = [(2, 32), (0, k), (0, l)] → AW none 101 31 L [] n1 μ3 (fun r' n2 μ2 => r' = some (0, x) ∧ J n2 μ2) := by
    intro L hw hL
    subst hL
    obtain ⟨hx, e1⟩ := T 1 (by decide) hw
    refine aw_aload_n (q := 32) mX7_bind dX7_bind_31 rfl rfl ?_
    refine aw_iconst (q := 33) mX7_bind dX7_bind_32 rfl rfl ?_
    refine aw_v1 (ci := 7) (q := 36) mX7_bind dX7_bind_33 rfl l7_139 k101_90 rfl kd_32 rfl rfl rfl (pX7_no n1 μ3 1) (kset (fun μ4 h4 => ?_))
    refine aw_zret mX7_bind dX7_bind_36 (by first | exact Or.inl rfl | exact Or.inr rfl | assumption | omega) ?_
    exact R μ3 μ4 1 hx e1 hw (by rw [e_7, e_2]) h4
  refine aw_if_eq (tgt := 31) (q := 18) mX7_bind dX7_bind_15 rfl (by decide) (fun c_15 => ?_) (fun c_15 => ?_)
  · rw [e8] at hy
    exact N1 _ (by unfold w_bi; (repeat' split) <;> omega) rfl
  · rw [e8] at hy
    have k0 : 0 ≤ k := by omega
    have k1 : k < μ 32 8 := by omega
    have hl := hl1 k0
    obtain ⟨hr66, hre⟩ := hnk k0
    have hl : Lay n1 μ3 := Lay_j hJ.1 hO7 (fun a j z => by (repeat' (refine Or.elim z ?_ ?_ <;> clear z <;> intro z)) <;> first | (obtain ⟨rfl, _⟩ := z; first | exact Sj_0 (by omega) | exact Sj_1 (by omega) (by omega) | exact Sj_32 (by omega) | exact Sj_4 (by omega) (by omega) | exact Sj_2 _ | exact Sj_3 _ | exact Sj_33 (by omega) (by omega) | exact Sj_66 (by omega) (by omega) | exact Sj_w (by omega)) | (subst z; first | exact Sj_2 _ | exact Sj_3 _ | exact Sj_33 (by omega) (by omega) | exact Sj_66 (by omega) (by omega) | exact Sj_w (by omega)) | exact Sj_33 (by omega) (by omega) | exact Sj_66 (by omega) (by omega) | exact Sj_w (by omega))
    obtain ⟨hN, hm, hr, hD1, h24⟩ := JNb hJ k0 k1
    obtain ⟨m0, m1, m2, m3, m5, m6, m7, m8, m9, m10, mc⟩ := id hm
    obtain ⟨n1', n2, n3, n4, n5, n6, n7, n8, n9, n10, n11, n12⟩ := id hN
    have e7 : μ3 32 7 = μ 32 7 := hO7 32 7 (by omega)
    have e34 : μ3 34 k = μ 34 k := hO7 34 k (by omega)
    have OK1 : ∀ L, (l = -1 ∨ μ 34 k ≤ l) → (l = -1 ∨ (0 ≤ l ∧ l < μ 32 7)) → L = [(2, 32), (0, k), (0, l)] → AW none 101 58 L [] n1 μ3 (fun r' n2 μ2 => r' = some (0, x) ∧ J n2 μ2) := by
      intro L h34 hll hL
      subst hL
      have hw : w_bi μ k l = 0 := by unfold w_bi; (repeat' split) <;> omega
      rcases h1 with ⟨h0, -⟩ | ⟨-, hx, e1⟩
      · exact absurd hw h0
      refine aw_aload_n (q := 59) mX7_bind dX7_bind_58 rfl rfl ?_
      refine aw_get (t := 2) (ji := 19) (q := 62) mX7_bind dX7_bind_59 rfl f7_53 rfl kd_32 rfl (ly_32_19 hl) ?_
      refine aw_iload_n (q := 63) mX7_bind dX7_bind_62 rfl rfl ?_
      refine aw_iload_n (q := 64) mX7_bind dX7_bind_63 rfl rfl ?_
      refine aw_iast (q := 65) mX7_bind dX7_bind_64 rfl kd_43 (by omega) (by omega) (fun μ_64 e_64 => ?_)
      have hl : Lay n1 μ_64 := by rw [e_64]; exact Lay.setA la_43 hl
      refine aw_aload_n (q := 66) mX7_bind dX7_bind_65 rfl rfl ?_
      refine aw_v0 (ci := 7) (q := 69) mX7_bind dX7_bind_66 rfl l7_143 k101_91 rfl kd_32 rfl rfl rfl (pX7_done n1 μ_64) (kset (fun μ4 h4 => ?_))
      refine aw_zret mX7_bind dX7_bind_69 (by first | exact Or.inl rfl | exact Or.inr rfl | assumption | omega) ?_
      have hO : Of (fun a j => (a = 0 ∧ j = 2) ∨ (a = nf k ∧ j = 10) ∨ (a = 32 ∧ (j = 0 ∨ j = 1 ∨ j = 21)) ∨ (a = 43 ∧ j = k)) μ μ4 := by
        rw [h4, e_64, e_7, e_2, e1]
        exact (((((Of.rf.set (by omega)).set (by omega)).set (by omega)).set (by omega)).set (by omega)).set (by omega)
      have v43 : μ4 43 k = l := by rw [h4, am_sn (Or.inl (by decide)), e_64, am_ss]
      have u10 : μ4 (nf k) 10 = l := by rw [h4, am_sn (Or.inl (by omega)), e_64, am_sn (Or.inl (by omega)), e_7, am_sn (Or.inl (by omega)), e_2, am_sn (Or.inl (by omega)), e1, am_sn (Or.inl (by omega)), am_ss]
      have v21 : μ4 32 21 = 0 := by rw [h4, am_ss]
      have vs : μ4 0 2 = μ4 32 0 := by rw [h4, am_sn (Or.inl (by decide)), am_sn (Or.inr (by decide)), e_64, am_sn (Or.inl (by decide)), am_sn (Or.inl (by decide)), e_7, am_sn (Or.inl (by decide)), am_ss, e_2, am_sn (Or.inl (by decide)), e1, am_ss]
      have hCp : Cp μ4 := hP.keep ⟨fun j _ _ => hO 32 j (by omega), fun a j _ _ => hO a j (by omega)⟩ (fun j => hO 4 j (by omega)) (fun a j _ _ => hO a j (by omega)) (fun z j z0 z1 z2 => hO _ j (by unfold nf; omega))
      have hbb : -1 ≤ l ∧ l < μ 32 7 := by omega
      have k34 : μ4 34 k = μ 34 k := hO 34 k (by omega)
      have k35 : μ4 35 k = μ 35 k := hO 35 k (by omega)
      have k36 : μ4 36 k = μ 36 k := hO 36 k (by omega)
      have k37 : μ4 37 k = μ 37 k := hO 37 k (by omega)
      have k38 : μ4 38 k = μ 38 k := hO 38 k (by omega)
      have k39 : μ4 39 k = μ 39 k := hO 39 k (by omega)
      have k40 : μ4 40 k = μ 40 k := hO 40 k (by omega)
      have k41 : μ4 41 k = μ 41 k := hO 41 k (by omega)
      have k42 : μ4 42 k = μ 42 k := hO 42 k (by omega)
      have k43 := v43
      have k44 : ∀ c, μ4 44 c = μ 44 c := fun c => hO 44 c (by omega)
      have f0 : μ4 (nf k) 0 = μ (nf k) 0 := hO (nf k) 0 (by omega)
      have f1 : μ4 (nf k) 1 = μ (nf k) 1 := hO (nf k) 1 (by omega)
      have f2 : μ4 (nf k) 2 = μ (nf k) 2 := hO (nf k) 2 (by omega)
      have f3 : μ4 (nf k) 3 = μ (nf k) 3 := hO (nf k) 3 (by omega)
      have f5 : μ4 (nf k) 5 = μ (nf k) 5 := hO (nf k) 5 (by omega)
      have f6 : μ4 (nf k) 6 = μ (nf k) 6 := hO (nf k) 6 (by omega)
      have f7 : μ4 (nf k) 7 = μ (nf k) 7 := hO (nf k) 7 (by omega)
      have f8 : μ4 (nf k) 8 = μ (nf k) 8 := hO (nf k) 8 (by omega)
      have f9 : μ4 (nf k) 9 = μ (nf k) 9 := hO (nf k) 9 (by omega)
      have f10 := u10
      have kn2 : ∀ c, μ4 (nf k + 1) c = μ (nf k + 1) c := fun c => hO _ c (by omega)
      have k7 : μ4 32 7 = μ 32 7 := hO 32 7 (by omega)
      have hJ2 : J n1 μ4 := hJ.upd (q := k) (Lay_j hJ.1 hO (fun a j z => by (repeat' (refine Or.elim z ?_ ?_ <;> clear z <;> intro z)) <;> first | (obtain ⟨rfl, _⟩ := z; first | exact Sj_0 (by omega) | exact Sj_1 (by omega) (by omega) | exact Sj_32 (by omega) | exact Sj_4 (by omega) (by omega) | exact Sj_2 _ | exact Sj_3 _ | exact Sj_33 (by omega) (by omega) | exact Sj_66 (by omega) (by omega) | exact Sj_w (by omega)) | (subst z; first | exact Sj_2 _ | exact Sj_3 _ | exact Sj_33 (by omega) (by omega) | exact Sj_66 (by omega) (by omega) | exact Sj_w (by omega)) | exact Sj_33 (by omega) (by omega) | exact Sj_66 (by omega) (by omega) | exact Sj_w (by omega))) (fun j _ _ => hO 32 j (by omega)) (fun j _ _ => hO 1 j (by omega)) (fun j => hO 2 j (by omega)) (fun j => hO 3 j (by omega)) (fun j => hO 33 j (by omega)) (fun z z0 z1 hz => ⟨fun a _ _ => hO a z (by omega), fun c _ _ => hO 44 _ (by omega), fun j _ _ => hO _ j (by unfold nf; omega), fun c _ _ => hO _ c (by unfold nf; omega)⟩) (by
        refine ⟨?_, ?_, by rw [k43]; exact hbb.1, by rw [k43]; exact hbb.2⟩
        · unfold Nb
          rw [k34, k35, k36, k37, k38, k39, k40, k41, k42, k7]
          exact ⟨n1', n2, n3, n4, n5, n6, n7, n8, n9, n10, fun c z0 z1 => by rw [k44]; exact n11 c z0 z1, n12⟩
        · unfold Nm
          rw [k34, k35, k36, k37, k38, k39, k40, k41, k42, k43, f0, f1, f2, f3, f5, f6, f7, f8, f9, f10]
          exact ⟨m0, m1, m2, m3, m5, m6, m7, m8, m9, rfl, fun c z0 z1 => by rw [k44, kn2]; exact mc c z0 z1⟩) vs (J.unset v21) hCp
      exact ⟨by rw [hx], hJ2⟩
    have OK0 : ∀ L, (l = -1 ∨ (0 ≤ l ∧ l < μ 32 7)) → L = [(2, 32), (0, k), (0, l)] → AW none 101 37 L [] n1 μ3 (fun r' n2 μ2 => r' = some (0, x) ∧ J n2 μ2) := by
      intro L hll hL
      subst hL
      refine aw_iload_n (q := 38) mX7_bind dX7_bind_37 rfl rfl ?_
      refine aw_iconst (q := 39) mX7_bind dX7_bind_38 rfl rfl ?_
      refine aw_icmp_eq (tgt := 58) (q := 42) mX7_bind dX7_bind_39 rfl (by decide) (fun c_39 => ?_) (fun c_39 => ?_)
      · exact OK1 _ (Or.inl c_39) hll rfl
      · refine aw_iload_n (q := 43) mX7_bind dX7_bind_42 rfl rfl ?_
        refine aw_aload_n (q := 44) mX7_bind dX7_bind_43 rfl rfl ?_
        refine aw_get (t := 2) (ji := 10) (q := 47) mX7_bind dX7_bind_44 rfl f7_26 rfl kd_32 rfl (ly_32_10 hl) ?_
        refine aw_iload_n (q := 48) mX7_bind dX7_bind_47 rfl rfl ?_
        refine aw_iald (q := 49) mX7_bind dX7_bind_48 rfl kd_34 (by omega) (by omega) e34 ?_
        refine aw_icmp_ge (tgt := 58) (q := 52) mX7_bind dX7_bind_49 rfl (by decide) (fun c_49 => ?_) (fun c_49 => ?_)
        · exact OK1 _ (Or.inr (by omega)) hll rfl
        · have hw : w_bi μ k l = 2 := by unfold w_bi; (repeat' split) <;> omega
          obtain ⟨hx, e1⟩ := T 2 (by decide) hw
          refine aw_aload_n (q := 53) mX7_bind dX7_bind_52 rfl rfl ?_
          refine aw_iconst (q := 54) mX7_bind dX7_bind_53 rfl rfl ?_
          refine aw_v1 (ci := 7) (q := 57) mX7_bind dX7_bind_54 rfl l7_139 k101_90 rfl kd_32 rfl rfl rfl (pX7_no n1 μ3 2) (kset (fun μ4 h4 => ?_))
          refine aw_zret mX7_bind dX7_bind_57 (by first | exact Or.inl rfl | exact Or.inr rfl | assumption | omega) ?_
          exact R μ3 μ4 2 hx e1 hw (by rw [e_7, e_2]) h4
    refine aw_iload_n (q := 19) mX7_bind dX7_bind_18 rfl rfl ?_
    refine aw_iconst (q := 20) mX7_bind dX7_bind_19 rfl rfl ?_
    refine aw_icmp_eq (tgt := 37) (q := 23) mX7_bind dX7_bind_20 rfl (by decide) (fun c_20 => ?_) (fun c_20 => ?_)
    · exact OK0 _ (Or.inl c_20) rfl
    · have hil := pX7_isLineB n1 μ3 l hl
      rw [e7] at hil
      refine aw_aload_n (q := 24) mX7_bind dX7_bind_23 rfl rfl ?_
      refine aw_iload_n (q := 25) mX7_bind dX7_bind_24 rfl rfl ?_
      refine aw_v1 (ci := 7) (q := 28) mX7_bind dX7_bind_25 rfl l7_151 k101_92 rfl kd_32 rfl rfl rfl (hil) (kint (fun y' μ5 hy' => ?_))
      obtain ⟨hm5, hy'⟩ := hy'
      subst hm5
      refine aw_if_ne (tgt := 37) (q := 31) mX7_bind dX7_bind_28 rfl (by decide) (fun c_28 => ?_) (fun c_28 => ?_)
      · exact OK0 _ (Or.inr (by omega)) rfl
      · exact N1 _ (by unfold w_bi; (repeat' split) <;> omega) rfl

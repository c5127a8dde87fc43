/-! calls that tell of a note: answer, bind, fix, loose, move -/
/-- a refusal by both, in words of a number that is not 0 -/
def Cr (μ : am_M) (w neg x : Int) (μ1 : am_M) : Prop := w ≠ 0 ∧ x = neg ∧ μ1 = am_set μ 0 2 w
theorem JNb {n : Nat} {μ : am_M} (hJ : J n μ) {k : Int} (k0 : 0 ≤ k) (k1 : k < μ 32 8) : Nb μ k ∧ Nm μ k ∧ Nr n (nf k) ∧ (-1 ≤ μ 43 k ∧ μ 43 k < μ 32 7) ∧ k < 24 := by
  obtain ⟨hl, hB, hC, hD, -⟩ := hJ
  have := hB.2.2.2.2.2.2.1
  exact ⟨hB.2.2.2.2.2.2.2.2 k k0 k1, (hC.2.2.2 k k0 k1).2, nf_r hC k0 k1, hD k k0 k1, by omega⟩
def w_an (μ : am_M) (k h : Int) : Int := if 0 ≤ k ∧ k < μ 32 8 then (if 1 ≤ h ∧ h ≤ 100 then (if μ 39 k < 4 then (if μ 41 k ≤ 0 then 0 else 7) else 3) else 2) else 1
theorem tX6_answer {n : Nat} {μ : am_M} (k h : Int) (hJ : J n μ) : AC 55 [(2, 0), (0, k), (0, h)] n μ (fun r n1 μ1 => ∃ x, r = some (0, x) ∧ n1 = n ∧ (Cr μ (w_an μ k h) (-1) x μ1 ∨ (w_an μ k h = 0 ∧ x = μ 39 k + 1 ∧ μ1 = am_set (am_set (am_set (am_set (am_set μ (nf k) 7 (μ 39 k + 1)) (nf k) 8 (μ 35 k + μ 40 k + h)) 4 5 1) 0 2 0) 0 2 0))) := by
  obtain ⟨hl, hB, hC, hD, hs, hM, hP⟩ := id hJ
  refine AC.of rfl ?_
  refine aw_aload_n (q := 1) mX6_answer dX6_answer_0 rfl rfl ?_
  refine aw_get (t := 2) (ji := 0) (q := 4) mX6_answer dX6_answer_1 rfl f6_12 rfl kd_0 rfl (ly_0_0 hl) ?_
  refine aw_iload_n (q := 5) mX6_answer dX6_answer_4 rfl rfl ?_
  refine aw_v1 (ci := 0) (q := 8) mX6_answer dX6_answer_5 rfl l6_85 k55_4 rfl kd_1 rfl rfl rfl (pX0_find n μ k hl hB hC) (kref (fun a ha => ?_))
  rcases ha with ⟨ha, k0, k1⟩ | ⟨ha, hn⟩
  · obtain ⟨hN, hm, hr, hD1, h24⟩ := JNb hJ k0 k1
    obtain ⟨m0, m1, m2, m3, m5, m6, m7, m8, m9, m10, mc⟩ := hm
    obtain ⟨-, n2, n3, n4, n5, n6, n7, n8, n9, -⟩ := id hN
    rw [← ha] at hr m0 m1 m2 m3 m5 m6 m7 m8 m9 m10 ⊢
    have hk_a := hr.k
    have hg_a := hr.1
    refine aw_astore_n (q := 9) mX6_answer dX6_answer_8 rfl (by decide) rfl ?_
    refine aw_aload_n (q := 10) mX6_answer dX6_answer_9 rfl rfl ?_
    refine aw_ifnonnull (tgt := 19) (q := 13) mX6_answer dX6_answer_10 rfl (by decide) (fun c_10 => ?_) (fun c_10 => ?_)
    · refine aw_iload_n (q := 20) mX6_answer dX6_answer_19 rfl rfl ?_
      refine aw_s1 (q := 23) mX6_answer dX6_answer_20 rfl lm6_70 l6_70 k55_86 rfl rfl rfl (pX6_isNoteHeight n μ h) (kint (fun y μ3 hy => ?_))
      obtain ⟨hmm, hy⟩ := hy
      subst hmm
      refine aw_if_ne (tgt := 32) (q := 26) mX6_answer dX6_answer_23 rfl (by decide) (fun c_23 => ?_) (fun c_23 => ?_)
      · refine aw_aload_n (q := 33) mX6_answer dX6_answer_32 rfl rfl ?_
        refine aw_get (t := 0) (ji := 7) (q := 36) mX6_answer dX6_answer_33 rfl f6_89 rfl hk_a rfl m7 ?_
        refine aw_iconst (q := 37) mX6_answer dX6_answer_36 rfl rfl ?_
        refine aw_icmp_lt (tgt := 46) (q := 40) mX6_answer dX6_answer_37 rfl (by decide) (fun c_37 => ?_) (fun c_37 => ?_)
        · refine aw_aload_n (q := 47) mX6_answer dX6_answer_46 rfl rfl ?_
          refine aw_get (t := 0) (ji := 5) (q := 50) mX6_answer dX6_answer_47 rfl f6_92 rfl hk_a rfl m5 ?_
          refine aw_if_le (tgt := 60) (q := 53) mX6_answer dX6_answer_50 rfl (by decide) (fun c_50 => ?_) (fun c_50 => ?_)
          · refine aw_aload_n (q := 61) mX6_answer dX6_answer_60 rfl rfl ?_
            refine aw_dupr (q := 62) mX6_answer dX6_answer_61 rfl ?_
            refine aw_get (t := 0) (ji := 7) (q := 65) mX6_answer dX6_answer_62 rfl f6_89 rfl hk_a rfl m7 ?_
            refine aw_iconst (q := 66) mX6_answer dX6_answer_65 rfl rfl ?_
            refine aw_iadd (q := 67) mX6_answer dX6_answer_66 rfl (by omega) (by omega) ?_
            refine aw_put (t := 0) (ji := 7) (q := 70) mX6_answer dX6_answer_67 rfl f6_89 rfl hk_a rfl (Or.inl rfl) (Or.inl (by decide)) (fun μ_67 e_67 => ?_)
            have hl : Lay n μ_67 := by rw [e_67]; exact Lay.setN hg_a (fun _ => by decide) hl
            refine aw_aload_n (q := 71) mX6_answer dX6_answer_70 rfl rfl ?_
            refine aw_dupr (q := 72) mX6_answer dX6_answer_71 rfl ?_
            refine aw_get (t := 0) (ji := 8) (q := 75) mX6_answer dX6_answer_72 rfl f6_95 rfl hk_a rfl (rd_sn e_67 (Or.inr (by decide)) m8) ?_
            refine aw_iload_n (q := 76) mX6_answer dX6_answer_75 rfl rfl ?_
            refine aw_iadd (q := 77) mX6_answer dX6_answer_76 rfl (by omega) (by omega) ?_
            refine aw_put (t := 0) (ji := 8) (q := 80) mX6_answer dX6_answer_77 rfl f6_95 rfl hk_a rfl (Or.inl rfl) (Or.inl (by decide)) (fun μ_77 e_77 => ?_)
            have hl : Lay n μ_77 := by rw [e_77]; exact Lay.setN hg_a (fun _ => by decide) hl
            refine aw_aload_n (q := 81) mX6_answer dX6_answer_80 rfl rfl ?_
            refine aw_v0 (ci := 6) (q := 84) mX6_answer dX6_answer_81 rfl l6_43 k55_80 rfl kd_0 rfl rfl rfl (pX6_accept n μ_77 hl) (kset (fun μ2 h2 => ?_))
            have e7 : μ2 a 7 = μ3 39 k + 1 := by
              rw [h2, am_sn (Or.inl (by omega)), am_sn (Or.inl (by omega)), e_77, am_sn (Or.inr (by decide)), e_67, am_ss]
            refine aw_pop (q := 85) mX6_answer dX6_answer_84 rfl ?_
            refine aw_aload_n (q := 86) mX6_answer dX6_answer_85 rfl rfl ?_
            refine aw_aload_n (q := 87) mX6_answer dX6_answer_86 rfl rfl ?_
            refine aw_get (t := 0) (ji := 7) (q := 90) mX6_answer dX6_answer_87 rfl f6_89 rfl hk_a rfl e7 ?_
            refine aw_v1 (ci := 6) (q := 93) mX6_answer dX6_answer_90 rfl l6_60 k55_82 rfl kd_0 rfl rfl rfl (pX6_give n μ2 (μ3 39 k + 1)) (kset (fun μ4 h4 => ?_))
            refine aw_iret mX6_answer dX6_answer_93 ?_
            exact ⟨_, rfl, rfl, Or.inr ⟨by unfold w_an; (repeat' split) <;> omega, rfl, by rw [h4, h2, e_77, e_67]⟩⟩
          · refine aw_aload_n (q := 54) mX6_answer dX6_answer_53 rfl rfl ?_
            refine aw_bipush (q := 56) mX6_answer dX6_answer_54 rfl rfl ?_
            refine aw_v1 (ci := 6) (q := 59) mX6_answer dX6_answer_56 rfl l6_50 k55_83 rfl kd_0 rfl rfl rfl (pX6_none n μ3 7) (kset (fun μ2 h2 => ?_))
            refine aw_iret mX6_answer dX6_answer_59 ?_
            have hw : w_an μ3 k h = 7 := by unfold w_an; (repeat' split) <;> omega
            exact ⟨_, rfl, rfl, Or.inl ⟨by rw [hw]; decide, rfl, by rw [hw]; exact h2⟩⟩
        · refine aw_aload_n (q := 41) mX6_answer dX6_answer_40 rfl rfl ?_
          refine aw_iconst (q := 42) mX6_answer dX6_answer_41 rfl rfl ?_
          refine aw_v1 (ci := 6) (q := 45) mX6_answer dX6_answer_42 rfl l6_50 k55_83 rfl kd_0 rfl rfl rfl (pX6_none n μ3 3) (kset (fun μ2 h2 => ?_))
          refine aw_iret mX6_answer dX6_answer_45 ?_
          have hw : w_an μ3 k h = 3 := by unfold w_an; (repeat' split) <;> omega
          exact ⟨_, rfl, rfl, Or.inl ⟨by rw [hw]; decide, rfl, by rw [hw]; exact h2⟩⟩
      · refine aw_aload_n (q := 27) mX6_answer dX6_answer_26 rfl rfl ?_
        refine aw_iconst (q := 28) mX6_answer dX6_answer_27 rfl rfl ?_
        refine aw_v1 (ci := 6) (q := 31) mX6_answer dX6_answer_28 rfl l6_50 k55_83 rfl kd_0 rfl rfl rfl (pX6_none n μ3 2) (kset (fun μ2 h2 => ?_))
        refine aw_iret mX6_answer dX6_answer_31 ?_
        have hw : w_an μ3 k h = 2 := by unfold w_an; (repeat' split) <;> omega
        exact ⟨_, rfl, rfl, Or.inl ⟨by rw [hw]; decide, rfl, by rw [hw]; exact h2⟩⟩
    · exact absurd (show 0 ≤ a by omega) c_10
  · refine aw_astore_n (q := 9) mX6_answer dX6_answer_8 rfl (by decide) rfl ?_
    refine aw_aload_n (q := 10) mX6_answer dX6_answer_9 rfl rfl ?_
    refine aw_ifnonnull (tgt := 19) (q := 13) mX6_answer dX6_answer_10 rfl (by decide) (fun c_10 => ?_) (fun c_10 => ?_)
    · exact absurd c_10 (by omega)
    · refine aw_aload_n (q := 14) mX6_answer dX6_answer_13 rfl rfl ?_
      refine aw_iconst (q := 15) mX6_answer dX6_answer_14 rfl rfl ?_
      refine aw_v1 (ci := 6) (q := 18) mX6_answer dX6_answer_15 rfl l6_50 k55_83 rfl kd_0 rfl rfl rfl (pX6_none n μ 1) (kset (fun μ2 h2 => ?_))
      refine aw_iret mX6_answer dX6_answer_18 ?_
      have hw : w_an μ k h = 1 := by unfold w_an; (repeat' split) <;> omega
      exact ⟨_, rfl, rfl, Or.inl ⟨by rw [hw]; decide, rfl, by rw [hw]; exact h2⟩⟩
theorem pr_answer {n : Nat} {μ : am_M} (k h : Int) (hJ : J n μ) : Prx 55 98 [(0, k), (0, h)] n μ := by
  obtain ⟨hl, hB, hC, hD, hs, hM, hP⟩ := id hJ
  refine Prx.of (tX6_answer k h hJ) ?_
  rintro x n1 μ1 ⟨rfl, h1⟩
  have R : ∀ (μ2 μ3 : am_M) (w : Int), x = -1 → μ1 = am_set μ 0 2 (w_an μ k h) → w_an μ k h = w → μ2 = am_set (am_set μ1 32 1 0) 32 0 0 → μ3 = am_set μ2 32 0 w → (some ((0 : Nat), (-1 : Int)) = some (0, x) ∧ J n1 μ3) := by
    intro μ2 μ3 w hx e1 hw e2 e3
    exact ⟨by rw [hx], hJ.ref (w := w) (by rw [e3, e2, e1, hw])⟩
  have hk3 : Of (fun a j => (a = 0 ∧ j = 2) ∨ (a = 4 ∧ j = 5) ∨ (a = nf k ∧ (j = 7 ∨ j = 8))) μ μ1 := by
    rcases h1 with ⟨-, -, e1⟩ | ⟨-, -, e1⟩
    · rw [e1]; exact Of.rf.set (by omega)
    · rw [e1]; exact ((((Of.rf.set (by omega)).set (by omega)).set (by omega)).set (by omega)).set (by omega)
  by_cases hkv : 0 ≤ k ∧ k < μ 32 8
  rotate_left
  · -- no such note
    refine AC.of rfl ?_
    have hw : w_an μ k h = 1 := by unfold w_an; (repeat' split) <;> omega
    rcases h1 with ⟨-, hx, e1⟩ | ⟨h0, -⟩
    rotate_left
    · omega
    refine aw_aload_n (q := 1) mX7_answer dX7_answer_0 rfl rfl ?_
    refine aw_iconst (q := 2) mX7_answer dX7_answer_1 rfl rfl ?_
    refine aw_put (t := 0) (ji := 1) (q := 5) mX7_answer dX7_answer_2 rfl f7_123 rfl kd_32 rfl (Or.inl rfl) (Or.inl (by decide)) (fun μ_2 e_2 => ?_)
    refine aw_aload_n (q := 6) mX7_answer dX7_answer_5 rfl rfl ?_
    refine aw_iconst (q := 7) mX7_answer dX7_answer_6 rfl rfl ?_
    refine aw_put (t := 0) (ji := 0) (q := 10) mX7_answer dX7_answer_7 rfl f7_126 rfl kd_32 rfl (Or.inl rfl) (Or.inl (by decide)) (fun μ_7 e_7 => ?_)
    refine aw_aload_n (q := 11) mX7_answer dX7_answer_10 rfl rfl ?_
    refine aw_iload_n (q := 12) mX7_answer dX7_answer_11 rfl rfl ?_
    have e8 : μ_7 32 8 = μ 32 8 := by rw [e_7, e_2, e1]; repeat (first | rw [am_sn (Or.inl (by decide))] | rw [am_sn (Or.inr (by decide))] | rw [am_ss])
    have hin := pX7_isNote n1 μ_7 k
    rw [e8] at hin
    refine aw_v1 (ci := 7) (q := 15) mX7_answer dX7_answer_12 rfl l7_154 k98_93 rfl kd_32 rfl rfl rfl (hin) (kint (fun y μ3 hy => ?_))
    obtain ⟨hm, hy⟩ := hy
    refine aw_if_ne (tgt := 24) (q := 18) mX7_answer dX7_answer_15 rfl (by decide) (fun c_15 => ?_) (fun c_15 => ?_)
    · exfalso; omega
    · refine aw_aload_n (q := 19) mX7_answer dX7_answer_18 rfl rfl ?_
      refine aw_iconst (q := 20) mX7_answer dX7_answer_19 rfl rfl ?_
      refine aw_v1 (ci := 7) (q := 23) mX7_answer dX7_answer_20 rfl l7_147 k98_89 rfl kd_32 rfl rfl rfl (pX7_refuse n1 μ3 1) (kset (fun μ4 h4 => ?_))
      refine aw_iret mX7_answer dX7_answer_23 ?_
      exact R μ_7 μ4 1 hx e1 hw (by rw [e_7, e_2]) (by rw [h4, hm])
  obtain ⟨k0, k1⟩ := hkv
  obtain ⟨hN, hm, hr, hD1, h24⟩ := JNb hJ k0 k1
  obtain ⟨m0, m1, m2, m3, m5, m6, m7, m8, m9, m10, mc⟩ := id hm
  obtain ⟨n1', n2, n3, n4, n5, n6, n7, n8, n9, n10, n11, n12⟩ := id hN
  have hr66 := hr.1
  have hre := hr.2.2
  have hl1 : Lay n1 μ1 := Lay_j hl hk3 (fun a j z => by (repeat' (refine Or.elim z ?_ ?_ <;> clear z <;> intro z)) <;> first | (obtain ⟨rfl, _⟩ := z; first | exact Sj_0 (by omega) | exact Sj_1 (by omega) (by omega) | exact Sj_32 (by omega) | exact Sj_4 (by omega) (by omega) | exact Sj_2 _ | exact Sj_3 _ | exact Sj_33 (by omega) (by omega) | exact Sj_66 (by omega) (by omega) | exact Sj_w (by omega)) | (subst z; first | exact Sj_2 _ | exact Sj_3 _ | exact Sj_33 (by omega) (by omega) | exact Sj_66 (by omega) (by omega) | exact Sj_w (by omega)) | exact Sj_33 (by omega) (by omega) | exact Sj_66 (by omega) (by omega) | exact Sj_w (by omega))
  have hl := hl1
  refine AC.of rfl ?_
  refine aw_aload_n (q := 1) mX7_answer dX7_answer_0 rfl rfl ?_
  refine aw_iconst (q := 2) mX7_answer dX7_answer_1 rfl rfl ?_
  refine aw_put (t := 0) (ji := 1) (q := 5) mX7_answer dX7_answer_2 rfl f7_123 rfl kd_32 rfl (Or.inl rfl) (Or.inl (by decide)) (fun μ_2 e_2 => ?_)
  have hl : Lay n1 μ_2 := by rw [e_2]; exact Lay.setF lf_32_1 hl
  refine aw_aload_n (q := 6) mX7_answer dX7_answer_5 rfl rfl ?_
  refine aw_iconst (q := 7) mX7_answer dX7_answer_6 rfl rfl ?_
  refine aw_put (t := 0) (ji := 0) (q := 10) mX7_answer dX7_answer_7 rfl f7_126 rfl kd_32 rfl (Or.inl rfl) (Or.inl (by decide)) (fun μ_7 e_7 => ?_)
  have hl : Lay n1 μ_7 := by rw [e_7]; exact Lay.setF lf_32_0 hl
  refine aw_aload_n (q := 11) mX7_answer dX7_answer_10 rfl rfl ?_
  refine aw_iload_n (q := 12) mX7_answer dX7_answer_11 rfl rfl ?_
  have hO7 : Of (fun a j => (a = 0 ∧ j = 2) ∨ (a = 4 ∧ j = 5) ∨ (a = nf k ∧ (j = 7 ∨ j = 8)) ∨ (a = 32 ∧ (j = 0 ∨ j = 1))) μ μ_7 := by
    rw [e_7, e_2]; exact ((hk3.mono (fun a j z => by omega)).set (by omega)).set (by omega)
  have e8 : μ_7 32 8 = μ 32 8 := hO7 32 8 (by omega)
  have e39 : μ_7 39 k = μ 39 k := hO7 39 k (by omega)
  have e41 : μ_7 41 k = μ 41 k := hO7 41 k (by omega)
  have e40 : μ_7 40 k = μ 40 k := hO7 40 k (by omega)
  have hin := pX7_isNote n1 μ_7 k
  rw [e8] at hin
  refine aw_v1 (ci := 7) (q := 15) mX7_answer dX7_answer_12 rfl l7_154 k98_93 rfl kd_32 rfl rfl rfl (hin) (kint (fun y μ3 hy => ?_))
  obtain ⟨hm3, hy⟩ := hy
  subst hm3
  have T : ∀ w, w ≠ 0 → w_an μ k h = w → x = -1 ∧ μ1 = am_set μ 0 2 (w_an μ k h) := fun w hw0 hw => by
    rcases h1 with ⟨-, hx, e1⟩ | ⟨h0, -⟩
    · exact ⟨hx, e1⟩
    · omega
  refine aw_if_ne (tgt := 24) (q := 18) mX7_answer dX7_answer_15 rfl (by decide) (fun c_15 => ?_) (fun c_15 => ?_)
  · have R2 : ∀ L, ¬ (1 ≤ h ∧ h ≤ 100) → L = [(2, 32), (0, k), (0, h)] → AW none 98 35 L [] n1 μ3 (fun r' n2 μ2 => r' = some (0, x) ∧ J n2 μ2) := by
      intro L hh hL
      subst hL
      have hw : w_an μ k h = 2 := by unfold w_an; (repeat' split) <;> omega
      obtain ⟨hx, e1⟩ := T 2 (by decide) hw
      refine aw_aload_n (q := 36) mX7_answer dX7_answer_35 rfl rfl ?_
      refine aw_iconst (q := 37) mX7_answer dX7_answer_36 rfl rfl ?_
      refine aw_v1 (ci := 7) (q := 40) mX7_answer dX7_answer_37 rfl l7_147 k98_89 rfl kd_32 rfl rfl rfl (pX7_refuse n1 μ3 2) (kset (fun μ4 h4 => ?_))
      refine aw_iret mX7_answer dX7_answer_40 ?_
      exact R μ3 μ4 2 hx e1 hw (by rw [e_7, e_2]) h4
    have R3 : ∀ L, (1 ≤ h ∧ h ≤ 100) → L = [(2, 32), (0, k), (0, h)] → AW none 98 41 L [] n1 μ3 (fun r' n2 μ2 => r' = some (0, x) ∧ J n2 μ2) := by
      intro L hh hL
      subst hL
      refine aw_aload_n (q := 42) mX7_answer dX7_answer_41 rfl rfl ?_
      refine aw_get (t := 2) (ji := 15) (q := 45) mX7_answer dX7_answer_42 rfl f7_41 rfl kd_32 rfl (ly_32_15 hl) ?_
      refine aw_iload_n (q := 46) mX7_answer dX7_answer_45 rfl rfl ?_
      refine aw_iald (q := 47) mX7_answer dX7_answer_46 rfl kd_39 (by omega) (by omega) e39 ?_
      refine aw_iconst (q := 48) mX7_answer dX7_answer_47 rfl rfl ?_
      refine aw_icmp_ne (tgt := 57) (q := 51) mX7_answer dX7_answer_48 rfl (by decide) (fun c_48 => ?_) (fun c_48 => ?_)
      · refine aw_aload_n (q := 58) mX7_answer dX7_answer_57 rfl rfl ?_
        refine aw_get (t := 2) (ji := 17) (q := 61) mX7_answer dX7_answer_58 rfl f7_47 rfl kd_32 rfl (ly_32_17 hl) ?_
        refine aw_iload_n (q := 62) mX7_answer dX7_answer_61 rfl rfl ?_
        refine aw_iald (q := 63) mX7_answer dX7_answer_62 rfl kd_41 (by omega) (by omega) e41 ?_
        refine aw_if_le (tgt := 73) (q := 66) mX7_answer dX7_answer_63 rfl (by decide) (fun c_63 => ?_) (fun c_63 => ?_)
        · -- it has one more
          have hw : w_an μ k h = 0 := by unfold w_an; (repeat' split) <;> omega
          rcases h1 with ⟨h0, -⟩ | ⟨-, hx, e1⟩
          · exact absurd hw h0
          refine aw_aload_n (q := 74) mX7_answer dX7_answer_73 rfl rfl ?_
          refine aw_get (t := 2) (ji := 15) (q := 77) mX7_answer dX7_answer_74 rfl f7_41 rfl kd_32 rfl (ly_32_15 hl) ?_
          refine aw_iload_n (q := 78) mX7_answer dX7_answer_77 rfl rfl ?_
          refine aw_dup2 (q := 79) mX7_answer dX7_answer_78 rfl ?_
          refine aw_iald (q := 80) mX7_answer dX7_answer_79 rfl kd_39 (by omega) (by omega) e39 ?_
          refine aw_iconst (q := 81) mX7_answer dX7_answer_80 rfl rfl ?_
          refine aw_iadd (q := 82) mX7_answer dX7_answer_81 rfl (by omega) (by omega) ?_
          refine aw_iast (q := 83) mX7_answer dX7_answer_82 rfl kd_39 (by omega) (by omega) (fun μ_82 e_82 => ?_)
          have hl : Lay n1 μ_82 := by rw [e_82]; exact Lay.setA la_39 hl
          refine aw_aload_n (q := 84) mX7_answer dX7_answer_83 rfl rfl ?_
          refine aw_get (t := 2) (ji := 16) (q := 87) mX7_answer dX7_answer_84 rfl f7_44 rfl kd_32 rfl (ly_32_16 hl) ?_
          refine aw_iload_n (q := 88) mX7_answer dX7_answer_87 rfl rfl ?_
          refine aw_dup2 (q := 89) mX7_answer dX7_answer_88 rfl ?_
          refine aw_iald (q := 90) mX7_answer dX7_answer_89 rfl kd_40 (by omega) (by omega) (rd_sn e_82 (Or.inl (by decide)) e40) ?_
          refine aw_iload_n (q := 91) mX7_answer dX7_answer_90 rfl rfl ?_
          refine aw_iadd (q := 92) mX7_answer dX7_answer_91 rfl (by omega) (by omega) ?_
          refine aw_iast (q := 93) mX7_answer dX7_answer_92 rfl kd_40 (by omega) (by omega) (fun μ_92 e_92 => ?_)
          have hl : Lay n1 μ_92 := by rw [e_92]; exact Lay.setA la_40 hl
          refine aw_aload_n (q := 94) mX7_answer dX7_answer_93 rfl rfl ?_
          refine aw_v0 (ci := 7) (q := 97) mX7_answer dX7_answer_94 rfl l7_143 k98_91 rfl kd_32 rfl rfl rfl (pX7_done n1 μ_92) (kset (fun μ4 h4 => ?_))
          have hO : Of (fun a j => (a = 0 ∧ j = 2) ∨ (a = 4 ∧ j = 5) ∨ (a = nf k ∧ (j = 7 ∨ j = 8)) ∨ (a = 32 ∧ (j = 0 ∨ j = 1 ∨ j = 21)) ∨ (a = 39 ∧ j = k) ∨ (a = 40 ∧ j = k)) μ μ4 := by
            rw [h4, e_92, e_82]
            exact (((hO7.mono (fun a j z => by omega)).set (by omega)).set (by omega)).set (by omega)
          have v39 : μ4 39 k = μ 39 k + 1 := by rw [h4, am_sn (Or.inl (by decide)), e_92, am_sn (Or.inl (by decide)), e_82, am_ss]
          have v40 : μ4 40 k = μ 40 k + h := by rw [h4, am_sn (Or.inl (by decide)), e_92, am_ss]
          have vx : ∀ j, (j = 7 ∨ j = 8) → μ4 (nf k) j = μ1 (nf k) j := fun j hj => by
            rw [h4, am_sn (Or.inl (by omega)), e_92, am_sn (Or.inl (by omega)), e_82, am_sn (Or.inl (by omega)), e_7, am_sn (Or.inl (by omega)), e_2, am_sn (Or.inl (by omega))]
          have v7 : μ4 (nf k) 7 = μ 39 k + 1 := by
            rw [vx 7 (by omega), e1, am_sn (Or.inl (by omega)), am_sn (Or.inl (by omega)), am_sn (Or.inl (by omega)), am_sn (Or.inr (by decide)), am_ss]
          have v8 : μ4 (nf k) 8 = μ 35 k + μ 40 k + h := by
            rw [vx 8 (by omega), e1, am_sn (Or.inl (by omega)), am_sn (Or.inl (by omega)), am_sn (Or.inl (by omega)), am_ss]
          have v45 : μ4 4 5 = 1 := by
            rw [h4, am_sn (Or.inl (by decide)), e_92, am_sn (Or.inl (by decide)), e_82, am_sn (Or.inl (by decide)), e_7, am_sn (Or.inl (by decide)), e_2, am_sn (Or.inl (by decide)), e1, am_sn (Or.inl (by decide)), am_sn (Or.inl (by decide)), am_ss]
          have v21 : μ4 32 21 = 0 := by rw [h4, am_ss]
          have vs : μ4 0 2 = μ4 32 0 := by
            rw [h4, am_sn (Or.inl (by decide)), am_sn (Or.inr (by decide)), e_92, am_sn (Or.inl (by decide)), am_sn (Or.inl (by decide)), e_82, am_sn (Or.inl (by decide)), am_sn (Or.inl (by decide)), e_7, am_sn (Or.inl (by decide)), am_ss, e_2, am_sn (Or.inl (by decide)), e1, am_ss]
          have hl : Lay n1 μ4 := by rw [h4]; exact Lay.setF lf_32_21 hl
          refine aw_pop (q := 98) mX7_answer dX7_answer_97 rfl ?_
          refine aw_aload_n (q := 99) mX7_answer dX7_answer_98 rfl rfl ?_
          refine aw_get (t := 2) (ji := 15) (q := 102) mX7_answer dX7_answer_99 rfl f7_41 rfl kd_32 rfl (ly_32_15 hl) ?_
          refine aw_iload_n (q := 103) mX7_answer dX7_answer_102 rfl rfl ?_
          refine aw_iald (q := 104) mX7_answer dX7_answer_103 rfl kd_39 (by omega) (by omega) v39 ?_
          refine aw_iret mX7_answer dX7_answer_104 ?_
          have hJ2 : J n1 μ4 := hJ.upd (q := k) (Lay_j hJ.1 hO (fun a j z => by (repeat' (refine Or.elim z ?_ ?_ <;> clear z <;> intro z)) <;> first | (obtain ⟨rfl, _⟩ := z; first | exact Sj_0 (by omega) | exact Sj_1 (by omega) (by omega) | exact Sj_32 (by omega) | exact Sj_4 (by omega) (by omega) | exact Sj_2 _ | exact Sj_3 _ | exact Sj_33 (by omega) (by omega) | exact Sj_66 (by omega) (by omega) | exact Sj_w (by omega)) | (subst z; first | exact Sj_2 _ | exact Sj_3 _ | exact Sj_33 (by omega) (by omega) | exact Sj_66 (by omega) (by omega) | exact Sj_w (by omega)) | exact Sj_33 (by omega) (by omega) | exact Sj_66 (by omega) (by omega) | exact Sj_w (by omega))) (fun j _ _ => hO 32 j (by omega)) (fun j _ _ => hO 1 j (by omega)) (fun j => hO 2 j (by omega)) (fun j => hO 3 j (by omega)) (fun j => hO 33 j (by omega)) (fun z z0 z1 hz => ⟨fun a _ _ => hO a z (by omega), fun c _ _ => hO 44 _ (by omega), fun j _ _ => hO _ j (by unfold nf; omega), fun c _ _ => hO _ c (by unfold nf; omega)⟩) (by
            have k34 : μ4 34 k = μ 34 k := hO 34 k (by omega)
            have k35 : μ4 35 k = μ 35 k := hO 35 k (by omega)
            have k36 : μ4 36 k = μ 36 k := hO 36 k (by omega)
            have k37 : μ4 37 k = μ 37 k := hO 37 k (by omega)
            have k38 : μ4 38 k = μ 38 k := hO 38 k (by omega)
            have k41 : μ4 41 k = μ 41 k := hO 41 k (by omega)
            have k42 : μ4 42 k = μ 42 k := hO 42 k (by omega)
            have k43 : μ4 43 k = μ 43 k := hO 43 k (by omega)
            have k44 : ∀ c, μ4 44 c = μ 44 c := fun c => hO 44 c (by omega)
            have kn : ∀ j, j ≠ 7 → j ≠ 8 → μ4 (nf k) j = μ (nf k) j := fun j z1 z2 => hO _ j (by omega)
            have kn2 : ∀ c, μ4 (nf k + 1) c = μ (nf k + 1) c := fun c => hO _ c (by omega)
            have k7 : μ4 32 7 = μ 32 7 := hO 32 7 (by omega)
            refine ⟨?_, ?_, by rw [k43]; exact hD1.1, by rw [k43]; exact hD1.2⟩
            · unfold Nb
              rw [k34, k35, k36, k37, k38, v39, v40, k41, k42, k7]
              exact ⟨n1', n2, n3, n4, n5, by omega, by omega, n8, n9, n10, fun c z0 z1 => by omega, fun _ => by omega⟩
            · unfold Nm
              rw [k34, k35, k36, k37, k38, v39, v40, k41, k42, k43, v7, v8, kn 0 (by decide) (by decide), kn 1 (by decide) (by decide), kn 2 (by decide) (by decide), kn 3 (by decide) (by decide), kn 5 (by decide) (by decide), kn 6 (by decide) (by decide), kn 9 (by decide) (by decide), kn 10 (by decide) (by decide)]
              exact ⟨m0, m1, m2, m3, m5, m6, rfl, by omega, m9, m10, fun c z0 z1 => by omega⟩) vs (J.unset v21) (J.stale v45)
          exact ⟨by rw [hx], hJ2⟩
        · have hw : w_an μ k h = 7 := by unfold w_an; (repeat' split) <;> omega
          obtain ⟨hx, e1⟩ := T 7 (by decide) hw
          refine aw_aload_n (q := 67) mX7_answer dX7_answer_66 rfl rfl ?_
          refine aw_bipush (q := 69) mX7_answer dX7_answer_67 rfl rfl ?_
          refine aw_v1 (ci := 7) (q := 72) mX7_answer dX7_answer_69 rfl l7_147 k98_89 rfl kd_32 rfl rfl rfl (pX7_refuse n1 μ3 7) (kset (fun μ4 h4 => ?_))
          refine aw_iret mX7_answer dX7_answer_72 ?_
          exact R μ3 μ4 7 hx e1 hw (by rw [e_7, e_2]) h4
      · have hw : w_an μ k h = 3 := by unfold w_an; (repeat' split) <;> omega
        obtain ⟨hx, e1⟩ := T 3 (by decide) hw
        refine aw_aload_n (q := 52) mX7_answer dX7_answer_51 rfl rfl ?_
        refine aw_iconst (q := 53) mX7_answer dX7_answer_52 rfl rfl ?_
        refine aw_v1 (ci := 7) (q := 56) mX7_answer dX7_answer_53 rfl l7_147 k98_89 rfl kd_32 rfl rfl rfl (pX7_refuse n1 μ3 3) (kset (fun μ4 h4 => ?_))
        refine aw_iret mX7_answer dX7_answer_56 ?_
        exact R μ3 μ4 3 hx e1 hw (by rw [e_7, e_2]) h4
    refine aw_iload_n (q := 25) mX7_answer dX7_answer_24 rfl rfl ?_
    refine aw_iconst (q := 26) mX7_answer dX7_answer_25 rfl rfl ?_
    refine aw_icmp_lt (tgt := 35) (q := 29) mX7_answer dX7_answer_26 rfl (by decide) (fun c_26 => ?_) (fun c_26 => ?_)
    · exact R2 _ (by omega) rfl
    · refine aw_iload_n (q := 30) mX7_answer dX7_answer_29 rfl rfl ?_
      refine aw_bipush (q := 32) mX7_answer dX7_answer_30 rfl rfl ?_
      refine aw_icmp_le (tgt := 41) (q := 35) mX7_answer dX7_answer_32 rfl (by decide) (fun c_32 => ?_) (fun c_32 => ?_)
      · exact R3 _ (by omega) rfl
      · exact R2 _ (by omega) rfl
  · exfalso; omega

/-! the reference: moved, runs, brackets as they are asked -/
theorem qm_moved {n : Nat} {μ : am_M} (hl : Lay n μ) (hB : Bk μ) (hD : Bd μ) (hM : Mp μ) (p : Int) : QM 139 [(0, p)] n μ (Fq (f_pg p) (vl_moved p)) := by
  have hJl := hl
  refine AC.of rfl ?_
  refine aw_aload_n (q := 1) mX7_moved dX7_moved_0 rfl rfl ?_
  refine aw_iconst (q := 2) mX7_moved dX7_moved_1 rfl rfl ?_
  refine aw_put (t := 0) (ji := 1) (q := 5) mX7_moved dX7_moved_2 rfl f7_123 rfl kd_32 rfl (Or.inl rfl) (Or.inl (by decide)) (fun μ_2 e_2 => ?_)
  have hl : Lay n μ_2 := by rw [e_2]; exact Lay.setF lf_32_1 hl
  refine aw_aload_n (q := 6) mX7_moved dX7_moved_5 rfl rfl ?_
  refine aw_iconst (q := 7) mX7_moved dX7_moved_6 rfl rfl ?_
  refine aw_put (t := 0) (ji := 0) (q := 10) mX7_moved dX7_moved_7 rfl f7_126 rfl kd_32 rfl (Or.inl rfl) (Or.inl (by decide)) (fun μ_7 e_7 => ?_)
  have hl : Lay n μ_7 := by rw [e_7]; exact Lay.setF lf_32_0 hl
  refine aw_aload_n (q := 11) mX7_moved dX7_moved_10 rfl rfl ?_
  obtain ⟨s1, s2, s3, s4, s5, s6, s7⟩ := qm_start hJl hB hD hM e_2 e_7
  refine aw_v0 (ci := 7) (q := 14) mX7_moved dX7_moved_11 rfl l7_239 k139_124 rfl kd_32 rfl rfl rfl (pX7_lacks n μ_7 s2 s3 s5) (kint (fun y μ1 hy => ?_))
  obtain ⟨o1, o2, o3, hy⟩ := hy
  have hO : Of Sw μ μ1 := s1.tr (o1.mono Sa_Sw)
  have hb : BE μ μ1 := hO.beW
  have hB1 := hB.tr hb
  have hl1 := s2.ofW (o1.mono Sa_Sw)
  have hl := hl1
  obtain ⟨PP, hPP⟩ : ∃ P : Option am_V → Nat → am_M → Prop, P = (fun r n1 μf => ∃ x, r = some (0, x) ∧ n1 = n ∧ Of Sw μ μf ∧ Mp μf ∧ ∃ m, BE μ m ∧ MS m ∧ Fq (f_pg p) (vl_moved p) m x (μf 32 0)) := ⟨_, rfl⟩
  rw [← hPP]
  have N1 : ∀ L, μ1 32 22 = 1 → ¬ (0 ≤ p ∧ p < μ1 32 23) → L = [(2, 32), (0, p), (9, 0), (9, 0)] → AW none 139 36 L [] n μ1 PP := by
    intro L h22 hn hL
    subst hL
    refine aw_aload_n (q := 37) mX7_moved dX7_moved_36 rfl rfl ?_
    refine aw_iconst (q := 38) mX7_moved dX7_moved_37 rfl rfl ?_
    refine aw_v1 (ci := 7) (q := 41) mX7_moved dX7_moved_38 rfl l7_147 k139_89 rfl kd_32 rfl rfl rfl (pX7_refuse n μ1 1) (kset (fun μ4 h4 => ?_))
    refine aw_iret mX7_moved dX7_moved_41 ?_
    rw [hPP]
    exact qm_end hO (Or.inl ⟨o2, o3⟩) hb o3 (Or.inl ⟨by unfold f_pg; rw [if_neg (by omega), if_neg hn]; decide, rfl, by unfold f_pg; rw [if_neg (by omega), if_neg hn]⟩) (Or.inl h4)
  refine aw_if_eq (tgt := 24) (q := 17) mX7_moved dX7_moved_14 rfl (by decide) (fun c_14 => ?_) (fun c_14 => ?_)
  · refine aw_iload_n (q := 25) mX7_moved dX7_moved_24 rfl rfl ?_
    refine aw_if_lt (tgt := 36) (q := 28) mX7_moved dX7_moved_25 rfl (by decide) (fun c_25 => ?_) (fun c_25 => ?_)
    · exact N1 _ (by omega) (by omega) rfl
    · refine aw_iload_n (q := 29) mX7_moved dX7_moved_28 rfl rfl ?_
      refine aw_aload_n (q := 30) mX7_moved dX7_moved_29 rfl rfl ?_
      refine aw_get (t := 0) (ji := 23) (q := 33) mX7_moved dX7_moved_30 rfl f7_226 rfl kd_32 rfl rfl ?_
      refine aw_icmp_lt (tgt := 42) (q := 36) mX7_moved dX7_moved_33 rfl (by decide) (fun c_33 => ?_) (fun c_33 => ?_)
      · have hQ := o3.pages hB1
        have hR := o3.1.2.2.1 p (by omega) c_33
        have h2 := hR.2.1
        have b6 := hB1.2.2.2.2.2.1
        have b7 := hB1.2.2.2.2.2.2.1
        have hga := pX7_gather n μ1 (μ1 45 p) (μ1 46 p) hl1 hB1 h2.1 h2.2.1 (by omega)
        refine aw_aload_n (q := 43) mX7_moved dX7_moved_42 rfl rfl ?_
        refine aw_aload_n (q := 44) mX7_moved dX7_moved_43 rfl rfl ?_
        refine aw_get (t := 2) (ji := 24) (q := 47) mX7_moved dX7_moved_44 rfl f7_59 rfl kd_32 rfl (ly_32_24 hl) ?_
        refine aw_iload_n (q := 48) mX7_moved dX7_moved_47 rfl rfl ?_
        refine aw_iald (q := 49) mX7_moved dX7_moved_48 rfl kd_45 (by omega) (by omega) rfl ?_
        refine aw_aload_n (q := 50) mX7_moved dX7_moved_49 rfl rfl ?_
        refine aw_get (t := 2) (ji := 25) (q := 53) mX7_moved dX7_moved_50 rfl f7_62 rfl kd_32 rfl (ly_32_25 hl) ?_
        refine aw_iload_n (q := 54) mX7_moved dX7_moved_53 rfl rfl ?_
        refine aw_iald (q := 55) mX7_moved dX7_moved_54 rfl kd_46 (by omega) (by omega) rfl ?_
        refine aw_v2 (ci := 7) (q := 58) mX7_moved dX7_moved_55 rfl l7_176 k139_110 rfl kd_32 rfl rfl rfl (hga) (kint (fun z μ2 hz => ?_))
        obtain ⟨-, g1, g2, g3⟩ := hz
        obtain ⟨H, hH⟩ : ∃ H, H = md_hr μ1 (μ1 45 p) (μ1 46 p).toNat := ⟨_, rfl⟩
        rw [← hH] at g2 g3
        have hl2 := hl1.ofW (g1.mono Sg_Sw)
        have hl := hl2
        have hvH : ∀ k ∈ H, (0 ≤ k ∧ k < 24) ∧ 0 ≤ μ1 34 k ∧ μ1 34 k < 60 := fun k hk => by
          rw [hH] at hk
          have := md_hr_mem hk
          have := (hB1.2.2.2.2.2.2.2.2 k (by omega) (by omega)).1
          omega
        have hHl : H.length ≤ 24 := by rw [hH]; exact Nat.le_trans md_hr_le (by omega)
        have hM2 : Mp μ2 := Or.inl ⟨(g1 32 21 (by unfold Sg; omega)).trans o2, o3.keep (g1.mono Sg_Sw).beW (fun j _ _ => g1 32 j (by unfold Sg; omega)) (fun a j _ _ => g1 a j (by unfold Sg; omega))⟩
        have F : ∀ (suf pre : List Int) (x : Int), H = pre ++ suf → (0 ≤ x ∧ x ≤ (pre.length : Int)) → md_mv μ1 H = x + md_mv μ1 suf → AW none 139 63 [(2, 32), (0, p), (0, x), (0, (pre.length : Int))] [] n μ2 PP := by
          intro suf
          induction suf with
          | nil =>
            intro pre x hps hx hv
            have hpl : H.length = pre.length := by rw [hps]; simp
            refine aw_iload_n (q := 64) mX7_moved dX7_moved_63 rfl rfl ?_
            refine aw_aload_n (q := 65) mX7_moved dX7_moved_64 rfl rfl ?_
            refine aw_get (t := 0) (ji := 39) (q := 68) mX7_moved dX7_moved_65 rfl f7_166 rfl kd_32 rfl g3 ?_
            refine aw_icmp_ge (tgt := 115) (q := 71) mX7_moved dX7_moved_68 rfl (by decide) (fun c_68 => ?_) (fun c_68 => ?_)
            · refine aw_iload_n (q := 116) mX7_moved dX7_moved_115 rfl rfl ?_
              refine aw_iret mX7_moved dX7_moved_116 ?_
              rw [hPP]
              refine qm_end (hO.tr (g1.mono Sg_Sw)) hM2 hb o3 (Or.inr ⟨by unfold f_pg; rw [if_neg (by omega), if_pos (by omega)], ?_, rfl⟩) (Or.inr ⟨rfl, by rw [g1 32 0 (by unfold Sg; omega), Sa_0 o1]; exact s7⟩)
              unfold vl_moved
              rw [← hH, hv]
              show x = x + 0
              omega
            · exact absurd c_68 (by omega)
          | cons k suf ih =>
            intro pre x hps hx hv
            have hpl : H.length = pre.length + suf.length + 1 := by rw [hps]; simp; omega
            have hk := hvH k (by rw [hps]; simp)
            have er : μ2 56 (pre.length : Int) = k := Ar.mid (by rw [← hps]; exact g2)
            have e52 : μ2 52 k = μ1 52 k := g1 52 k (by unfold Sg; omega)
            have e34 : μ2 34 k = μ1 34 k := g1 34 k (by unfold Sg; omega)
            have e49 : μ2 49 (μ1 34 k) = μ1 49 (μ1 34 k) := g1 49 _ (by unfold Sg; omega)
            have hmv : md_mv μ1 (k :: suf) = (if μ1 52 k = μ1 49 (μ1 34 k) then 0 else 1) + md_mv μ1 suf := rfl
            have K : ∀ y, (y = 0 ∨ y = 1) → y = (if μ1 52 k = μ1 49 (μ1 34 k) then 0 else 1) → AW none 139 107 [(2, 32), (0, p), (0, x), (0, (pre.length : Int))] [(0, y), (0, x)] n μ2 PP := by
              intro y hy1 hy
              have h9 := ih (pre ++ [k]) (x + y) (by rw [hps]; simp) (by simp; omega) (by rw [hv, hmv, ← hy]; omega)
              refine aw_iadd (q := 108) mX7_moved dX7_moved_107 rfl (by omega) (by omega) ?_
              refine aw_istore_n (q := 109) mX7_moved dX7_moved_108 rfl (by decide) rfl ?_
              refine aw_iinc (q := 112) mX7_moved dX7_moved_109 rfl rfl (by decide) (by omega) (by omega) rfl ?_
              refine aw_goto (q := 63) mX7_moved dX7_moved_112 (by decide) ?_
              rw [List.length_append] at h9
              exact h9
            refine aw_iload_n (q := 64) mX7_moved dX7_moved_63 rfl rfl ?_
            refine aw_aload_n (q := 65) mX7_moved dX7_moved_64 rfl rfl ?_
            refine aw_get (t := 0) (ji := 39) (q := 68) mX7_moved dX7_moved_65 rfl f7_166 rfl kd_32 rfl g3 ?_
            refine aw_icmp_ge (tgt := 115) (q := 71) mX7_moved dX7_moved_68 rfl (by decide) (fun c_68 => ?_) (fun c_68 => ?_)
            · exact absurd c_68 (by omega)
            · refine aw_iload_n (q := 72) mX7_moved dX7_moved_71 rfl rfl ?_
              refine aw_aload_n (q := 73) mX7_moved dX7_moved_72 rfl rfl ?_
              refine aw_get (t := 2) (ji := 31) (q := 76) mX7_moved dX7_moved_73 rfl f7_81 rfl kd_32 rfl (ly_32_31 hl) ?_
              refine aw_aload_n (q := 77) mX7_moved dX7_moved_76 rfl rfl ?_
              refine aw_get (t := 2) (ji := 35) (q := 80) mX7_moved dX7_moved_77 rfl f7_93 rfl kd_32 rfl (ly_32_35 hl) ?_
              refine aw_iload_n (q := 81) mX7_moved dX7_moved_80 rfl rfl ?_
              refine aw_iald (q := 82) mX7_moved dX7_moved_81 rfl kd_56 (by omega) (by omega) er ?_
              refine aw_iald (q := 83) mX7_moved dX7_moved_82 rfl kd_52 (by omega) (by omega) e52 ?_
              refine aw_aload_n (q := 84) mX7_moved dX7_moved_83 rfl rfl ?_
              refine aw_get (t := 2) (ji := 28) (q := 87) mX7_moved dX7_moved_84 rfl f7_72 rfl kd_32 rfl (ly_32_28 hl) ?_
              refine aw_aload_n (q := 88) mX7_moved dX7_moved_87 rfl rfl ?_
              refine aw_get (t := 2) (ji := 10) (q := 91) mX7_moved dX7_moved_88 rfl f7_26 rfl kd_32 rfl (ly_32_10 hl) ?_
              refine aw_aload_n (q := 92) mX7_moved dX7_moved_91 rfl rfl ?_
              refine aw_get (t := 2) (ji := 35) (q := 95) mX7_moved dX7_moved_92 rfl f7_93 rfl kd_32 rfl (ly_32_35 hl) ?_
              refine aw_iload_n (q := 96) mX7_moved dX7_moved_95 rfl rfl ?_
              refine aw_iald (q := 97) mX7_moved dX7_moved_96 rfl kd_56 (by omega) (by omega) er ?_
              refine aw_iald (q := 98) mX7_moved dX7_moved_97 rfl kd_34 (by omega) (by omega) e34 ?_
              refine aw_iald (q := 99) mX7_moved dX7_moved_98 rfl kd_49 (by omega) (by omega) e49 ?_
              refine aw_icmp_eq (tgt := 106) (q := 102) mX7_moved dX7_moved_99 rfl (by decide) (fun c_99 => ?_) (fun c_99 => ?_)
              · refine aw_iconst (q := 107) mX7_moved dX7_moved_106 rfl rfl ?_
                exact K 0 (by omega) (by rw [if_pos c_99])
              · refine aw_iconst (q := 103) mX7_moved dX7_moved_102 rfl rfl ?_
                refine aw_goto (q := 107) mX7_moved dX7_moved_103 (by decide) ?_
                exact K 1 (by omega) (by rw [if_neg c_99])
        refine aw_pop (q := 59) mX7_moved dX7_moved_58 rfl ?_
        refine aw_iconst (q := 60) mX7_moved dX7_moved_59 rfl rfl ?_
        refine aw_istore_n (q := 61) mX7_moved dX7_moved_60 rfl (by decide) rfl ?_
        refine aw_iconst (q := 62) mX7_moved dX7_moved_61 rfl rfl ?_
        refine aw_istore_n (q := 63) mX7_moved dX7_moved_62 rfl (by decide) rfl ?_
        exact F H [] 0 rfl (by simp) (by omega)
      · exact N1 _ (by omega) (by omega) rfl
  · refine aw_aload_n (q := 18) mX7_moved dX7_moved_17 rfl rfl ?_
    refine aw_bipush (q := 20) mX7_moved dX7_moved_18 rfl rfl ?_
    refine aw_v1 (ci := 7) (q := 23) mX7_moved dX7_moved_20 rfl l7_147 k139_89 rfl kd_32 rfl rfl rfl (pX7_refuse n μ1 6) (kset (fun μ4 h4 => ?_))
    refine aw_iret mX7_moved dX7_moved_23 ?_
    rw [hPP]
    exact qm_end hO (Or.inl ⟨o2, o3⟩) hb o3 (Or.inl ⟨by unfold f_pg; rw [if_pos (by omega)]; decide, rfl, by unfold f_pg; rw [if_pos (by omega)]⟩) (Or.inl h4)
theorem qm_runs {n : Nat} {μ : am_M} (hl : Lay n μ) (hB : Bk μ) (hD : Bd μ) (hM : Mp μ) (p s : Int) : QM 138 [(0, p), (0, s)] n μ (Fq (f_rn p s) (vl_runs p s)) := by
  have hJl := hl
  obtain ⟨PP, hPP⟩ : ∃ P : Option am_V → Nat → am_M → Prop, P = (fun r n1 μf => ∃ x, r = some (0, x) ∧ n1 = n ∧ Of Sw μ μf ∧ Mp μf ∧ ∃ m, BE μ m ∧ MS m ∧ Fq (f_rn p s) (vl_runs p s) m x (μf 32 0)) := ⟨_, rfl⟩
  show AC 138 _ n μ (fun r n1 μf => ∃ x, r = some (0, x) ∧ n1 = n ∧ Of Sw μ μf ∧ Mp μf ∧ ∃ m, BE μ m ∧ MS m ∧ Fq (f_rn p s) (vl_runs p s) m x (μf 32 0))
  rw [← hPP]
  refine AC.of rfl ?_
  refine aw_aload_n (q := 1) mX7_runs dX7_runs_0 rfl rfl ?_
  refine aw_iconst (q := 2) mX7_runs dX7_runs_1 rfl rfl ?_
  refine aw_put (t := 0) (ji := 1) (q := 5) mX7_runs dX7_runs_2 rfl f7_123 rfl kd_32 rfl (Or.inl rfl) (Or.inl (by decide)) (fun μ_2 e_2 => ?_)
  have hl : Lay n μ_2 := by rw [e_2]; exact Lay.setF lf_32_1 hl
  refine aw_aload_n (q := 6) mX7_runs dX7_runs_5 rfl rfl ?_
  refine aw_iconst (q := 7) mX7_runs dX7_runs_6 rfl rfl ?_
  refine aw_put (t := 0) (ji := 0) (q := 10) mX7_runs dX7_runs_7 rfl f7_126 rfl kd_32 rfl (Or.inl rfl) (Or.inl (by decide)) (fun μ_7 e_7 => ?_)
  have hl : Lay n μ_7 := by rw [e_7]; exact Lay.setF lf_32_0 hl
  refine aw_iload_n (q := 11) mX7_runs dX7_runs_10 rfl rfl ?_
  obtain ⟨s1, s2, s3, s4, s5, s6, s7⟩ := qm_start hJl hB hD hM e_2 e_7
  have N2 : ∀ L, ¬ (0 ≤ s ∧ s ≤ 1) → L = [(2, 32), (0, p), (0, s), (9, 0), (9, 0), (9, 0), (9, 0)] → AW none 138 19 L [] n μ_7 PP := by
    intro L hn hL
    subst hL
    obtain ⟨m, hb, hMS⟩ := MS_ex hJl hB
    refine aw_aload_n (q := 20) mX7_runs dX7_runs_19 rfl rfl ?_
    refine aw_iconst (q := 21) mX7_runs dX7_runs_20 rfl rfl ?_
    refine aw_v1 (ci := 7) (q := 24) mX7_runs dX7_runs_21 rfl l7_147 k138_89 rfl kd_32 rfl rfl rfl (pX7_refuse n μ_7 2) (kset (fun μ4 h4 => ?_))
    refine aw_iret mX7_runs dX7_runs_24 ?_
    rw [hPP]
    exact qm_end s1 s5 hb hMS (Or.inl ⟨by unfold f_rn; rw [if_neg hn]; decide, rfl, by unfold f_rn; rw [if_neg hn]⟩) (Or.inl h4)
  have Y : ∀ L, (0 ≤ s ∧ s ≤ 1) → L = [(2, 32), (0, p), (0, s), (9, 0), (9, 0), (9, 0), (9, 0)] → AW none 138 25 L [] n μ_7 PP := by
    intro L hs hL
    subst hL
    refine aw_aload_n (q := 26) mX7_runs dX7_runs_25 rfl rfl ?_
    refine aw_v0 (ci := 7) (q := 29) mX7_runs dX7_runs_26 rfl l7_239 k138_124 rfl kd_32 rfl rfl rfl (pX7_lacks n μ_7 s2 s3 s5) (kint (fun y μ1 hy => ?_))
    obtain ⟨o1, o2, o3, hy⟩ := hy
    have hO : Of Sw μ μ1 := s1.tr (o1.mono Sa_Sw)
    have hb : BE μ μ1 := hO.beW
    have hB1 := hB.tr hb
    have hl1 := s2.ofW (o1.mono Sa_Sw)
    have hl := hl1
    have hfr : f_rn p s μ1 = f_pg p μ1 := by unfold f_rn; rw [if_pos hs]
    have N1 : ∀ L, μ1 32 22 = 1 → ¬ (0 ≤ p ∧ p < μ1 32 23) → L = [(2, 32), (0, p), (0, s), (9, 0), (9, 0), (9, 0), (9, 0)] → AW none 138 51 L [] n μ1 PP := by
      intro L h22 hn hL
      subst hL
      refine aw_aload_n (q := 52) mX7_runs dX7_runs_51 rfl rfl ?_
      refine aw_iconst (q := 53) mX7_runs dX7_runs_52 rfl rfl ?_
      refine aw_v1 (ci := 7) (q := 56) mX7_runs dX7_runs_53 rfl l7_147 k138_89 rfl kd_32 rfl rfl rfl (pX7_refuse n μ1 1) (kset (fun μ4 h4 => ?_))
      refine aw_iret mX7_runs dX7_runs_56 ?_
      rw [hPP]
      exact qm_end hO (Or.inl ⟨o2, o3⟩) hb o3 (Or.inl ⟨by rw [hfr]; unfold f_pg; rw [if_neg (by omega), if_neg hn]; decide, rfl, by rw [hfr]; unfold f_pg; rw [if_neg (by omega), if_neg hn]⟩) (Or.inl h4)
    refine aw_if_eq (tgt := 39) (q := 32) mX7_runs dX7_runs_29 rfl (by decide) (fun c_29 => ?_) (fun c_29 => ?_)
    · refine aw_iload_n (q := 40) mX7_runs dX7_runs_39 rfl rfl ?_
      refine aw_if_lt (tgt := 51) (q := 43) mX7_runs dX7_runs_40 rfl (by decide) (fun c_40 => ?_) (fun c_40 => ?_)
      · exact N1 _ (by omega) (by omega) rfl
      · refine aw_iload_n (q := 44) mX7_runs dX7_runs_43 rfl rfl ?_
        refine aw_aload_n (q := 45) mX7_runs dX7_runs_44 rfl rfl ?_
        refine aw_get (t := 0) (ji := 23) (q := 48) mX7_runs dX7_runs_45 rfl f7_226 rfl kd_32 rfl rfl ?_
        refine aw_icmp_lt (tgt := 57) (q := 51) mX7_runs dX7_runs_48 rfl (by decide) (fun c_48 => ?_) (fun c_48 => ?_)
        · have hQ := o3.pages hB1
          have hR := o3.1.2.2.1 p (by omega) c_48
          have h2 := hR.2.1
          obtain ⟨k1, k2, -⟩ := o3.1.2.2.2 p (by omega) (by omega)
          have b2 := hB1.2.1
          have b6 := hB1.2.2.2.2.2.1
          have b7 := hB1.2.2.2.2.2.2.1
          obtain ⟨ca, hca⟩ : ∃ z, z = μ1 47 (2 * p + s) := ⟨_, rfl⟩
          have hcb : 0 ≤ ca ∧ ca ≤ 100 := by
            have : s = 0 ∨ s = 1 := by omega
            rcases this with rfl | rfl
            · rw [hca, show 2 * p + 0 = 2 * p by omega]; exact k1
            · rw [hca]; exact k2
          -- behind what is carried
          have Z : ∀ x near : Int, x = (if 0 < ca then 1 else 0) → near = (if 0 < ca then ca + μ1 32 3 else -1) → AW none 138 99 [(2, 32), (0, p), (0, s), (0, x), (9, 0), (9, 0), (9, 0)] [(0, near)] n μ1 PP := by
            intro x near hx hnear
            have hga := pX7_gather n μ1 (μ1 45 p) (μ1 46 p) hl1 hB1 h2.1 h2.2.1 (by omega)
            refine aw_istore (q := 101) mX7_runs dX7_runs_99 rfl (by decide) rfl ?_
            refine aw_aload_n (q := 102) mX7_runs dX7_runs_101 rfl rfl ?_
            refine aw_aload_n (q := 103) mX7_runs dX7_runs_102 rfl rfl ?_
            refine aw_get (t := 2) (ji := 24) (q := 106) mX7_runs dX7_runs_103 rfl f7_59 rfl kd_32 rfl (ly_32_24 hl) ?_
            refine aw_iload_n (q := 107) mX7_runs dX7_runs_106 rfl rfl ?_
            refine aw_iald (q := 108) mX7_runs dX7_runs_107 rfl kd_45 (by omega) (by omega) rfl ?_
            refine aw_aload_n (q := 109) mX7_runs dX7_runs_108 rfl rfl ?_
            refine aw_get (t := 2) (ji := 25) (q := 112) mX7_runs dX7_runs_109 rfl f7_62 rfl kd_32 rfl (ly_32_25 hl) ?_
            refine aw_iload_n (q := 113) mX7_runs dX7_runs_112 rfl rfl ?_
            refine aw_iald (q := 114) mX7_runs dX7_runs_113 rfl kd_46 (by omega) (by omega) rfl ?_
            refine aw_v2 (ci := 7) (q := 117) mX7_runs dX7_runs_114 rfl l7_176 k138_110 rfl kd_32 rfl rfl rfl (hga) (kint (fun z μ2 hz => ?_))
            obtain ⟨-, g1, g2, g3⟩ := hz
            obtain ⟨H, hH⟩ : ∃ H, H = md_hr μ1 (μ1 45 p) (μ1 46 p).toNat := ⟨_, rfl⟩
            rw [← hH] at g2 g3
            have hl2 := hl1.ofW (g1.mono Sg_Sw)
            have hl := hl2
            have hvH : ∀ k ∈ H, (0 ≤ k ∧ k < 24) ∧ 0 ≤ μ1 52 k ∧ μ1 52 k ≤ 400 ∧ -1 ≤ μ1 53 k ∧ μ1 53 k ≤ 500 := fun k hk => by
              rw [hH] at hk
              have h3 := md_hr_mem hk
              have h4 := PgR_top hB1 hR ⟨k1.1, k2.1⟩ hk
              omega
            have hHl : H.length ≤ 24 := by rw [hH]; exact Nat.le_trans md_hr_le (by omega)
            have hM2 : Mp μ2 := Or.inl ⟨(g1 32 21 (by unfold Sg; omega)).trans o2, o3.keep (g1.mono Sg_Sw).beW (fun j _ _ => g1 32 j (by unfold Sg; omega)) (fun a j _ _ => g1 a j (by unfold Sg; omega))⟩
            have e3 : μ2 32 3 = μ1 32 3 := g1 32 3 (by unfold Sg; omega)
            have F : ∀ (suf pre : List Int) (x' near' : Int) (v6 : am_V), H = pre ++ suf → (0 ≤ x' ∧ x' ≤ 1 + (pre.length : Int)) → x + md_rn μ1 s (μ1 32 3) near H = x' + md_rn μ1 s (μ1 32 3) near' suf → AW none 138 121 [(2, 32), (0, p), (0, s), (0, x'), (0, near'), (0, (pre.length : Int)), v6] [] n μ2 PP := by
              intro suf
              induction suf with
              | nil =>
                intro pre x' near' v6 hps hx' hv
                have hpl : H.length = pre.length := by rw [hps]; simp
                refine aw_iload (q := 123) mX7_runs dX7_runs_121 rfl rfl ?_
                refine aw_aload_n (q := 124) mX7_runs dX7_runs_123 rfl rfl ?_
                refine aw_get (t := 0) (ji := 39) (q := 127) mX7_runs dX7_runs_124 rfl f7_166 rfl kd_32 rfl g3 ?_
                refine aw_icmp_ge (tgt := 201) (q := 130) mX7_runs dX7_runs_127 rfl (by decide) (fun c_127 => ?_) (fun c_127 => ?_)
                · refine aw_iload_n (q := 202) mX7_runs dX7_runs_201 rfl rfl ?_
                  refine aw_iret mX7_runs dX7_runs_202 ?_
                  rw [hPP]
                  refine qm_end (hO.tr (g1.mono Sg_Sw)) hM2 hb o3 (Or.inr ⟨by rw [hfr]; unfold f_pg; rw [if_neg (by omega), if_pos (by omega)], ?_, rfl⟩) (Or.inr ⟨rfl, by rw [g1 32 0 (by unfold Sg; omega), Sa_0 o1]; exact s7⟩)
                  unfold vl_runs
                  rw [← hca, ← hH, ← hx, ← hnear, hv]
                  show x' = x' + 0
                  omega
                · exact absurd c_127 (by omega)
              | cons k suf ih =>
                intro pre x' near' v6 hps hx' hv
                have hpl : H.length = pre.length + suf.length + 1 := by rw [hps]; simp; omega
                have hk := hvH k (by rw [hps]; simp)
                have er : μ2 56 (pre.length : Int) = k := Ar.mid (by rw [← hps]; exact g2)
                have e51 : μ2 51 k = μ1 51 k := g1 51 k (by unfold Sg; omega)
                have e52 : μ2 52 k = μ1 52 k := g1 52 k (by unfold Sg; omega)
                have e53 : μ2 53 k = μ1 53 k := g1 53 k (by unfold Sg; omega)
                have hmv : md_rn μ1 s (μ1 32 3) near' (k :: suf) = if μ1 51 k = s then (if μ1 52 k = near' then 0 else 1) + md_rn μ1 s (μ1 32 3) (μ1 52 k + μ1 53 k + μ1 32 3) suf else md_rn μ1 s (μ1 32 3) near' suf := rfl
                rw [hmv] at hv
                have K : ∀ (y nr : Int) (w6 : am_V), (0 ≤ y ∧ y ≤ 1 + (pre.length : Int) + 1) → x + md_rn μ1 s (μ1 32 3) near H = y + md_rn μ1 s (μ1 32 3) nr suf → AW none 138 195 [(2, 32), (0, p), (0, s), (0, y), (0, nr), (0, (pre.length : Int)), w6] [] n μ2 PP := by
                  intro y nr w6 hyb hyv
                  have h9 := ih (pre ++ [k]) y nr w6 (by rw [hps]; simp) (by simp; omega) hyv
                  refine aw_iinc (q := 198) mX7_runs dX7_runs_195 rfl rfl (by decide) (by omega) (by omega) rfl ?_
                  refine aw_goto (q := 121) mX7_runs dX7_runs_198 (by decide) ?_
                  rw [List.length_append] at h9
                  exact h9
                have M : ∀ y : Int, (y = 0 ∨ y = 1) → y = (if μ1 52 k = near' then 0 else 1) → μ1 51 k = s → AW none 138 171 [(2, 32), (0, p), (0, s), (0, x'), (0, near'), (0, (pre.length : Int)), (0, k)] [(0, y), (0, x')] n μ2 PP := by
                  intro y hy0 hy hk51
                  rw [if_pos hk51, ← hy] at hv
                  refine aw_iadd (q := 172) mX7_runs dX7_runs_171 rfl (by omega) (by omega) ?_
                  refine aw_istore_n (q := 173) mX7_runs dX7_runs_172 rfl (by decide) rfl ?_
                  refine aw_aload_n (q := 174) mX7_runs dX7_runs_173 rfl rfl ?_
                  refine aw_get (t := 2) (ji := 31) (q := 177) mX7_runs dX7_runs_174 rfl f7_81 rfl kd_32 rfl (ly_32_31 hl) ?_
                  refine aw_iload (q := 179) mX7_runs dX7_runs_177 rfl rfl ?_
                  refine aw_iald (q := 180) mX7_runs dX7_runs_179 rfl kd_52 (by omega) (by omega) e52 ?_
                  refine aw_aload_n (q := 181) mX7_runs dX7_runs_180 rfl rfl ?_
                  refine aw_get (t := 2) (ji := 32) (q := 184) mX7_runs dX7_runs_181 rfl f7_84 rfl kd_32 rfl (ly_32_32 hl) ?_
                  refine aw_iload (q := 186) mX7_runs dX7_runs_184 rfl rfl ?_
                  refine aw_iald (q := 187) mX7_runs dX7_runs_186 rfl kd_53 (by omega) (by omega) e53 ?_
                  refine aw_iadd (q := 188) mX7_runs dX7_runs_187 rfl (by omega) (by omega) ?_
                  refine aw_aload_n (q := 189) mX7_runs dX7_runs_188 rfl rfl ?_
                  refine aw_get (t := 0) (ji := 3) (q := 192) mX7_runs dX7_runs_189 rfl f7_13 rfl kd_32 rfl e3 ?_
                  refine aw_iadd (q := 193) mX7_runs dX7_runs_192 rfl (by omega) (by omega) ?_
                  refine aw_istore (q := 195) mX7_runs dX7_runs_193 rfl (by decide) rfl ?_
                  exact K (x' + y) _ _ (by omega) (by rw [hv]; omega)
                refine aw_iload (q := 123) mX7_runs dX7_runs_121 rfl rfl ?_
                refine aw_aload_n (q := 124) mX7_runs dX7_runs_123 rfl rfl ?_
                refine aw_get (t := 0) (ji := 39) (q := 127) mX7_runs dX7_runs_124 rfl f7_166 rfl kd_32 rfl g3 ?_
                refine aw_icmp_ge (tgt := 201) (q := 130) mX7_runs dX7_runs_127 rfl (by decide) (fun c_127 => ?_) (fun c_127 => ?_)
                · exact absurd c_127 (by omega)
                · refine aw_aload_n (q := 131) mX7_runs dX7_runs_130 rfl rfl ?_
                  refine aw_get (t := 2) (ji := 35) (q := 134) mX7_runs dX7_runs_131 rfl f7_93 rfl kd_32 rfl (ly_32_35 hl) ?_
                  refine aw_iload (q := 136) mX7_runs dX7_runs_134 rfl rfl ?_
                  refine aw_iald (q := 137) mX7_runs dX7_runs_136 rfl kd_56 (by omega) (by omega) er ?_
                  refine aw_istore (q := 139) mX7_runs dX7_runs_137 rfl (by decide) rfl ?_
                  refine aw_aload_n (q := 140) mX7_runs dX7_runs_139 rfl rfl ?_
                  refine aw_get (t := 2) (ji := 30) (q := 143) mX7_runs dX7_runs_140 rfl f7_78 rfl kd_32 rfl (ly_32_30 hl) ?_
                  refine aw_iload (q := 145) mX7_runs dX7_runs_143 rfl rfl ?_
                  refine aw_iald (q := 146) mX7_runs dX7_runs_145 rfl kd_51 (by omega) (by omega) e51 ?_
                  refine aw_iload_n (q := 147) mX7_runs dX7_runs_146 rfl rfl ?_
                  refine aw_icmp_eq (tgt := 153) (q := 150) mX7_runs dX7_runs_147 rfl (by decide) (fun c_147 => ?_) (fun c_147 => ?_)
                  · refine aw_iload_n (q := 154) mX7_runs dX7_runs_153 rfl rfl ?_
                    refine aw_aload_n (q := 155) mX7_runs dX7_runs_154 rfl rfl ?_
                    refine aw_get (t := 2) (ji := 31) (q := 158) mX7_runs dX7_runs_155 rfl f7_81 rfl kd_32 rfl (ly_32_31 hl) ?_
                    refine aw_iload (q := 160) mX7_runs dX7_runs_158 rfl rfl ?_
                    refine aw_iald (q := 161) mX7_runs dX7_runs_160 rfl kd_52 (by omega) (by omega) e52 ?_
                    refine aw_iload (q := 163) mX7_runs dX7_runs_161 rfl rfl ?_
                    refine aw_icmp_ne (tgt := 170) (q := 166) mX7_runs dX7_runs_163 rfl (by decide) (fun c_163 => ?_) (fun c_163 => ?_)
                    · refine aw_iconst (q := 171) mX7_runs dX7_runs_170 rfl rfl ?_
                      exact M 1 (by omega) (by rw [if_neg c_163]) c_147
                    · refine aw_iconst (q := 167) mX7_runs dX7_runs_166 rfl rfl ?_
                      refine aw_goto (q := 171) mX7_runs dX7_runs_167 (by decide) ?_
                      exact M 0 (by omega) (by rw [if_pos (by omega)]) c_147
                  · refine aw_goto (q := 195) mX7_runs dX7_runs_150 (by decide) ?_
                    rw [if_neg c_147] at hv
                    exact K x' near' _ (by omega) hv
            refine aw_pop (q := 118) mX7_runs dX7_runs_117 rfl ?_
            refine aw_iconst (q := 119) mX7_runs dX7_runs_118 rfl rfl ?_
            refine aw_istore (q := 121) mX7_runs dX7_runs_119 rfl (by decide) rfl ?_
            exact F H [] x near _ rfl (by rw [hx]; split <;> simp) rfl
          refine aw_aload_n (q := 58) mX7_runs dX7_runs_57 rfl rfl ?_
          refine aw_get (t := 2) (ji := 26) (q := 61) mX7_runs dX7_runs_58 rfl f7_65 rfl kd_32 rfl (ly_32_26 hl) ?_
          refine aw_iconst (q := 62) mX7_runs dX7_runs_61 rfl rfl ?_
          refine aw_iload_n (q := 63) mX7_runs dX7_runs_62 rfl rfl ?_
          refine aw_imul (q := 64) mX7_runs dX7_runs_63 rfl (by omega) (by omega) ?_
          refine aw_iload_n (q := 65) mX7_runs dX7_runs_64 rfl rfl ?_
          refine aw_iadd (q := 66) mX7_runs dX7_runs_65 rfl (by omega) (by omega) ?_
          refine aw_iald (q := 67) mX7_runs dX7_runs_66 rfl kd_47 (by omega) (by omega) hca.symm ?_
          refine aw_if_le (tgt := 74) (q := 70) mX7_runs dX7_runs_67 rfl (by decide) (fun c_67 => ?_) (fun c_67 => ?_)
          · refine aw_iconst (q := 75) mX7_runs dX7_runs_74 rfl rfl ?_
            refine aw_istore_n (q := 76) mX7_runs dX7_runs_75 rfl (by decide) rfl ?_
            refine aw_iload_n (q := 77) mX7_runs dX7_runs_76 rfl rfl ?_
            refine aw_if_le (tgt := 98) (q := 80) mX7_runs dX7_runs_77 rfl (by decide) (fun c_77 => ?_) (fun c_77 => ?_)
            · refine aw_iconst (q := 99) mX7_runs dX7_runs_98 rfl rfl ?_
              exact Z 0 (-1) (by rw [if_neg (by omega)]) (by rw [if_neg (by omega)])
            · exact absurd c_77 (by decide)
          · refine aw_iconst (q := 71) mX7_runs dX7_runs_70 rfl rfl ?_
            refine aw_goto (q := 75) mX7_runs dX7_runs_71 (by decide) ?_
            refine aw_istore_n (q := 76) mX7_runs dX7_runs_75 rfl (by decide) rfl ?_
            refine aw_iload_n (q := 77) mX7_runs dX7_runs_76 rfl rfl ?_
            refine aw_if_le (tgt := 98) (q := 80) mX7_runs dX7_runs_77 rfl (by decide) (fun c_77 => ?_) (fun c_77 => ?_)
            · exact absurd c_77 (by decide)
            · refine aw_aload_n (q := 81) mX7_runs dX7_runs_80 rfl rfl ?_
              refine aw_get (t := 2) (ji := 26) (q := 84) mX7_runs dX7_runs_81 rfl f7_65 rfl kd_32 rfl (ly_32_26 hl) ?_
              refine aw_iconst (q := 85) mX7_runs dX7_runs_84 rfl rfl ?_
              refine aw_iload_n (q := 86) mX7_runs dX7_runs_85 rfl rfl ?_
              refine aw_imul (q := 87) mX7_runs dX7_runs_86 rfl (by omega) (by omega) ?_
              refine aw_iload_n (q := 88) mX7_runs dX7_runs_87 rfl rfl ?_
              refine aw_iadd (q := 89) mX7_runs dX7_runs_88 rfl (by omega) (by omega) ?_
              refine aw_iald (q := 90) mX7_runs dX7_runs_89 rfl kd_47 (by omega) (by omega) hca.symm ?_
              refine aw_aload_n (q := 91) mX7_runs dX7_runs_90 rfl rfl ?_
              refine aw_get (t := 0) (ji := 3) (q := 94) mX7_runs dX7_runs_91 rfl f7_13 rfl kd_32 rfl rfl ?_
              refine aw_iadd (q := 95) mX7_runs dX7_runs_94 rfl (by omega) (by omega) ?_
              refine aw_goto (q := 99) mX7_runs dX7_runs_95 (by decide) ?_
              exact Z 1 _ (by rw [if_pos (by omega)]) (by rw [if_pos (by omega)])
        · exact N1 _ (by omega) (by omega) rfl
    · refine aw_aload_n (q := 33) mX7_runs dX7_runs_32 rfl rfl ?_
      refine aw_bipush (q := 35) mX7_runs dX7_runs_33 rfl rfl ?_
      refine aw_v1 (ci := 7) (q := 38) mX7_runs dX7_runs_35 rfl l7_147 k138_89 rfl kd_32 rfl rfl rfl (pX7_refuse n μ1 6) (kset (fun μ4 h4 => ?_))
      refine aw_iret mX7_runs dX7_runs_38 ?_
      rw [hPP]
      exact qm_end hO (Or.inl ⟨o2, o3⟩) hb o3 (Or.inl ⟨by rw [hfr]; unfold f_pg; rw [if_pos (by omega)]; decide, rfl, by rw [hfr]; unfold f_pg; rw [if_pos (by omega)]⟩) (Or.inl h4)
  refine aw_if_lt (tgt := 19) (q := 14) mX7_runs dX7_runs_11 rfl (by decide) (fun c_11 => ?_) (fun c_11 => ?_)
  · exact N2 _ (by omega) rfl
  · refine aw_iload_n (q := 15) mX7_runs dX7_runs_14 rfl rfl ?_
    refine aw_iconst (q := 16) mX7_runs dX7_runs_15 rfl rfl ?_
    refine aw_icmp_le (tgt := 25) (q := 19) mX7_runs dX7_runs_16 rfl (by decide) (fun c_16 => ?_) (fun c_16 => ?_)
    · exact Y _ (by omega) rfl
    · exact N2 _ (by omega) rfl
theorem pX7_bracketed (n : Nat) (μ : am_M) (k p : Int) (hl : Lay n μ) (hB : Bk μ) (hD : Bd μ) (hM : Mp μ) : AC 134 [(2, 32), (0, k), (0, p)] n μ (PI n (fun x μ' => Of Sw μ μ' ∧ μ' 32 0 = μ 32 0 ∧ Mp μ' ∧ 0 ≤ x ∧ ∃ m, BE μ m ∧ MS m ∧ x = f_br μ k p m ∧ (x = 0 → μ' 63 k = m 49 (bF m p k) ∧ μ' 64 k = m 49 (bL μ m p k) + m 33 (bL μ m p k) ∧ vl_column μ k p m (μ' 65 k)))) := by
  have b7 := hB.2.2.2.2.2.2.1
  refine AC.of rfl ?_
  refine aw_aload_n (q := 1) mX7_bracketed dX7_bracketed_0 rfl rfl ?_
  refine aw_iload_n (q := 2) mX7_bracketed dX7_bracketed_1 rfl rfl ?_
  refine aw_v1 (ci := 7) (q := 5) mX7_bracketed dX7_bracketed_2 rfl l7_242 k134_128 rfl kd_32 rfl rfl rfl (pX7_asked n μ k hl hB hM) (kint (fun y μ1 hy => ?_))
  obtain ⟨o1, o2, o3, hy⟩ := hy
  have hO : Of Sw μ μ1 := o1.mono Sa_Sw
  have hb : BE μ μ1 := hO.beW
  refine aw_istore_n (q := 6) mX7_bracketed dX7_bracketed_5 rfl (by decide) rfl ?_
  refine aw_iload_n (q := 7) mX7_bracketed dX7_bracketed_6 rfl rfl ?_
  refine aw_if_le (tgt := 12) (q := 10) mX7_bracketed dX7_bracketed_7 rfl (by decide) (fun c_7 => ?_) (fun c_7 => ?_)
  · rcases hy with ⟨h0, -⟩ | ⟨h0, h21, hMS, hf⟩
    · exact absurd c_7 (by omega)
    have hkk := f_nt0 hMS hf
    have hB1 := hB.tr hb
    have hl1 := hl.ofW hO
    have hl := hl1
    have e8 : μ1 32 8 = μ 32 8 := hb.1 8 (by decide) (by decide)
    have e43 : ∀ z, μ1 43 z = μ 43 z := fun z => hO 43 z (by unfold Sw; omega)
    have N1 : ∀ L, ¬ (0 ≤ p ∧ p < μ1 32 23) → L = [(2, 32), (0, k), (0, p), (0, y)] → AW none 134 24 L [] n μ1 (PI n (fun x μ' => Of Sw μ μ' ∧ μ' 32 0 = μ 32 0 ∧ Mp μ' ∧ 0 ≤ x ∧ ∃ m, BE μ m ∧ MS m ∧ x = f_br μ k p m ∧ (x = 0 → μ' 63 k = m 49 (bF m p k) ∧ μ' 64 k = m 49 (bL μ m p k) + m 33 (bL μ m p k) ∧ vl_column μ k p m (μ' 65 k)))) := by
      intro L hn hL
      subst hL
      refine aw_iconst (q := 25) mX7_bracketed dX7_bracketed_24 rfl rfl ?_
      refine aw_iret mX7_bracketed dX7_bracketed_25 ?_
      exact ⟨1, rfl, rfl, hO, Sa_0 o1, o2, by decide, μ1, hb, hMS, by unfold f_br; rw [if_pos hf, if_neg hn], fun z => absurd z (by decide)⟩
    refine aw_iload_n (q := 13) mX7_bracketed dX7_bracketed_12 rfl rfl ?_
    refine aw_if_lt (tgt := 24) (q := 16) mX7_bracketed dX7_bracketed_13 rfl (by decide) (fun c_13 => ?_) (fun c_13 => ?_)
    · exact N1 _ (by omega) rfl
    · refine aw_iload_n (q := 17) mX7_bracketed dX7_bracketed_16 rfl rfl ?_
      refine aw_aload_n (q := 18) mX7_bracketed dX7_bracketed_17 rfl rfl ?_
      refine aw_get (t := 0) (ji := 23) (q := 21) mX7_bracketed dX7_bracketed_18 rfl f7_226 rfl kd_32 rfl rfl ?_
      refine aw_icmp_lt (tgt := 26) (q := 24) mX7_bracketed dX7_bracketed_21 rfl (by decide) (fun c_21 => ?_) (fun c_21 => ?_)
      · have hpp : 0 ≤ p ∧ p < μ1 32 23 := by omega
        have hD1 : Bd μ1 := hD.tr hb e43
        refine aw_aload_n (q := 27) mX7_bracketed dX7_bracketed_26 rfl rfl ?_
        refine aw_iload_n (q := 28) mX7_bracketed dX7_bracketed_27 rfl rfl ?_
        refine aw_v1 (ci := 7) (q := 31) mX7_bracketed dX7_bracketed_28 rfl l7_253 k134_132 rfl kd_32 rfl rfl rfl (pX7_brackets n μ1 p hl1 hB1 hD1 hMS hkk.2.2 hpp.1 hpp.2) (kvoid (fun μ2 h2 => ?_))
        obtain ⟨g1, g2⟩ := h2
        have hl := hl1.ofW (g1.mono S6_Sw)
        have hO2 : Of Sw μ μ2 := hO.tr (g1.mono S6_Sw)
        have h00 : μ2 32 0 = μ 32 0 := (g1 32 0 (by unfold S6; omega)).trans (Sa_0 o1)
        have hM2 : Mp μ2 := Or.inl ⟨(g1 32 21 (by unfold S6; omega)).trans h21, hMS.keep (g1.mono S6_Sw).beW (fun j _ _ => g1 32 j (by unfold S6; omega)) (fun a j _ _ => g1 a j (by unfold S6; omega))⟩
        obtain ⟨q1, q2, q3, q4⟩ := bH43 (m := μ1) e43
        have n34 := (hB1.2.2.2.2.2.2.2.2 k hkk.1.1 hkk.1.2).1
        have hset : md_setB μ1 k = true := by unfold md_setB; simp [hkk.2.1]
        obtain ⟨w1, w2⟩ := g2 k hkk.1.1 hkk.1.2
        have hRr := hMS.1.2.2.1 p hpp.1 hpp.2
        by_cases hbh : bH μ1 μ1 p k
        · obtain ⟨r1, r2, r3⟩ := w1 ⟨Or.inl (by omega), hset, hbh⟩
          have hin := bH_in hRr.2.1.1 hbh
          have htp := PgR_ls hB1 hRr hin.1 hin.2.1
          have hbh' : bH μ μ1 p k := by rw [← q2]; exact hbh
          refine aw_aload_n (q := 32) mX7_bracketed dX7_bracketed_31 rfl rfl ?_
          refine aw_get (t := 2) (ji := 44) (q := 35) mX7_bracketed dX7_bracketed_32 rfl f7_114 rfl kd_32 rfl (ly_32_44 hl) ?_
          refine aw_iload_n (q := 36) mX7_bracketed dX7_bracketed_35 rfl rfl ?_
          refine aw_iald (q := 37) mX7_bracketed dX7_bracketed_36 rfl kd_63 (by omega) (by omega) rfl ?_
          refine aw_if_ge (tgt := 45) (q := 40) mX7_bracketed dX7_bracketed_37 rfl (by decide) (fun c_37 => ?_) (fun c_37 => ?_)
          · refine aw_iconst (q := 46) mX7_bracketed dX7_bracketed_45 rfl rfl ?_
            refine aw_iret mX7_bracketed dX7_bracketed_46 ?_
            refine ⟨0, rfl, rfl, hO2, h00, hM2, by decide, μ1, hb, hMS, ?_, fun _ => ⟨r1, by rw [r2, q1], fun z => μ2 65 z, fun z hz hb2 hs2 => ?_, rfl⟩⟩
            · unfold f_br; rw [if_pos hf, if_pos hpp, if_pos (show μ 43 k ≠ -1 ∧ bF μ1 p k ≤ bL μ μ1 p k from hbh')]
            · have hzm := md_hr_iff.mp hz
              have hz34 := (hB1.2.2.2.2.2.2.2.2 z (by omega) (by omega)).1
              have := ((g2 z (by omega) (by omega)).1 ⟨Or.inl (by omega), hzm.2.2, by rw [q2]; exact hb2⟩).2.2
              rw [q4] at this
              exact this
          · exact absurd c_37 (by rw [r1]; omega)
        · have hm1 := w2 (fun z => hbh z.2.2)
          have hbh' : ¬ bH μ μ1 p k := by rw [← q2]; exact hbh
          refine aw_aload_n (q := 32) mX7_bracketed dX7_bracketed_31 rfl rfl ?_
          refine aw_get (t := 2) (ji := 44) (q := 35) mX7_bracketed dX7_bracketed_32 rfl f7_114 rfl kd_32 rfl (ly_32_44 hl) ?_
          refine aw_iload_n (q := 36) mX7_bracketed dX7_bracketed_35 rfl rfl ?_
          refine aw_iald (q := 37) mX7_bracketed dX7_bracketed_36 rfl kd_63 (by omega) (by omega) hm1 ?_
          refine aw_if_ge (tgt := 45) (q := 40) mX7_bracketed dX7_bracketed_37 rfl (by decide) (fun c_37 => ?_) (fun c_37 => ?_)
          · exact absurd c_37 (by decide)
          · refine aw_bipush (q := 42) mX7_bracketed dX7_bracketed_40 rfl rfl ?_
            refine aw_goto (q := 46) mX7_bracketed dX7_bracketed_42 (by decide) ?_
            refine aw_iret mX7_bracketed dX7_bracketed_46 ?_
            refine ⟨8, rfl, rfl, hO2, h00, hM2, by decide, μ1, hb, hMS, ?_, fun z => absurd z (by decide)⟩
            unfold f_br; rw [if_pos hf, if_pos hpp, if_neg (show ¬ (μ 43 k ≠ -1 ∧ bF μ1 p k ≤ bL μ μ1 p k) from hbh')]
      · exact N1 _ (by omega) rfl
  · rcases hy with ⟨h0, m, hbm, hMS, hf⟩ | ⟨h0, -⟩
    · refine aw_iload_n (q := 11) mX7_bracketed dX7_bracketed_10 rfl rfl ?_
      refine aw_iret mX7_bracketed dX7_bracketed_11 ?_
      refine ⟨y, rfl, rfl, hO, Sa_0 o1, o2, o3, m, hbm, hMS, ?_, fun z => absurd z h0⟩
      unfold f_br; rw [if_neg (by rw [← hf]; exact h0)]; exact hf
    · exact absurd c_7 (by omega)
theorem qm_column {n : Nat} {μ : am_M} (hl : Lay n μ) (hB : Bk μ) (hD : Bd μ) (hM : Mp μ) (k p : Int) : QM 135 [(0, k), (0, p)] n μ (Fq (f_br μ k p) (vl_column μ k p)) := by
  have b7 := hB.2.2.2.2.2.2.1
  have hJl := hl
  refine AC.of rfl ?_
  refine aw_aload_n (q := 1) mX7_column dX7_column_0 rfl rfl ?_
  refine aw_iconst (q := 2) mX7_column dX7_column_1 rfl rfl ?_
  refine aw_put (t := 0) (ji := 1) (q := 5) mX7_column dX7_column_2 rfl f7_123 rfl kd_32 rfl (Or.inl rfl) (Or.inl (by decide)) (fun μ_2 e_2 => ?_)
  have hl : Lay n μ_2 := by rw [e_2]; exact Lay.setF lf_32_1 hl
  refine aw_aload_n (q := 6) mX7_column dX7_column_5 rfl rfl ?_
  refine aw_aload_n (q := 7) mX7_column dX7_column_6 rfl rfl ?_
  refine aw_iload_n (q := 8) mX7_column dX7_column_7 rfl rfl ?_
  refine aw_iload_n (q := 9) mX7_column dX7_column_8 rfl rfl ?_
  have hO2 : Of Sst μ μ_2 := by rw [e_2]; exact Of.rf.set (Or.inr ⟨rfl, Or.inr rfl⟩)
  have hOw : Of Sw μ μ_2 := by rw [e_2]; exact Of.rf.set (by unfold Sw; omega)
  have e43 : ∀ z, μ_2 43 z = μ 43 z := fun z => hO2 43 z (by unfold Sst; omega)
  have hM2 : Mp μ_2 := hM.keep (Sst.be hO2) (fun j _ _ => hO2 32 j (by unfold Sst; omega)) (fun a j _ _ => hO2 a j (by unfold Sst; omega))
  refine aw_v2 (ci := 7) (q := 12) mX7_column dX7_column_9 rfl l7_256 k135_134 rfl kd_32 rfl rfl rfl (pX7_bracketed n μ_2 k p hl (hB.tr (Sst.be hO2)) (hD.tr (Sst.be hO2) e43) hM2) (kint (fun y μ1 hy => ?_))
  obtain ⟨o1, -, o2, o3, m, hb, hMS, hf, hv⟩ := hy
  have hO : Of Sw μ μ1 := hOw.tr o1
  have hbm : BE μ m := (Sst.be hO2).trans hb
  rw [f_br43 e43] at hf
  obtain ⟨q1, q2, q3, q4⟩ := bH43 (m := m) e43
  have hl := hl.ofW o1
  refine aw_put (t := 0) (ji := 0) (q := 15) mX7_column dX7_column_12 rfl f7_126 rfl kd_32 rfl (Or.inl rfl) (Or.inl (by decide)) (fun μ_12 e_12 => ?_)
  have hl : Lay n μ_12 := by rw [e_12]; exact Lay.setF lf_32_0 hl
  refine aw_aload_n (q := 16) mX7_column dX7_column_15 rfl rfl ?_
  refine aw_get (t := 0) (ji := 0) (q := 19) mX7_column dX7_column_16 rfl f7_126 rfl kd_32 rfl (rd_ss e_12) ?_
  refine aw_if_le (tgt := 26) (q := 22) mX7_column dX7_column_19 rfl (by decide) (fun c_19 => ?_) (fun c_19 => ?_)
  · have h0 : y = 0 := by omega
    obtain ⟨-, -, v3⟩ := hv h0
    have hkk := f_nt0 hMS (f_br0 (by rw [← hf]; exact h0)).1
    have e8 : m 32 8 = μ 32 8 := hbm.1 8 (by decide) (by decide)
    refine aw_aload_n (q := 27) mX7_column dX7_column_26 rfl rfl ?_
    refine aw_get (t := 2) (ji := 46) (q := 30) mX7_column dX7_column_27 rfl f7_120 rfl kd_32 rfl (ly_32_46 hl) ?_
    refine aw_iload_n (q := 31) mX7_column dX7_column_30 rfl rfl ?_
    refine aw_iald (q := 32) mX7_column dX7_column_31 rfl kd_65 (by omega) (by omega) (rd_sn e_12 (Or.inl (by decide)) rfl) ?_
    refine aw_iret mX7_column dX7_column_32 ?_
    refine qm_end hO o2 hbm hMS (Or.inr ⟨by rw [← hf]; exact h0, ?_, rfl⟩) (Or.inl (by rw [e_12, h0]))
    obtain ⟨col, u1, u2⟩ := v3
    refine ⟨col, fun z hz hb2 hs2 => ?_, u2⟩
    have := u1 z hz (by rw [q2]; exact hb2) hs2
    rw [q4] at this
    exact this
  · refine aw_iconst (q := 23) mX7_column dX7_column_22 rfl rfl ?_
    refine aw_goto (q := 32) mX7_column dX7_column_23 (by decide) ?_
    refine aw_iret mX7_column dX7_column_32 ?_
    exact qm_end hO o2 hbm hMS (Or.inl ⟨by rw [← hf]; omega, rfl, hf⟩) (Or.inl e_12)
theorem qm_bracket {n : Nat} {μ : am_M} (hl : Lay n μ) (hB : Bk μ) (hD : Bd μ) (hM : Mp μ) (k p e : Int) (he : e = 0 ∨ e = 1) : QM 136 [(0, k), (0, p), (0, e)] n μ (Fq (f_br μ k p) (vl_bracket μ k p e)) := by
  have b7 := hB.2.2.2.2.2.2.1
  have hJl := hl
  refine AC.of rfl ?_
  refine aw_aload_n (q := 1) mX7_bracket dX7_bracket_0 rfl rfl ?_
  refine aw_iconst (q := 2) mX7_bracket dX7_bracket_1 rfl rfl ?_
  refine aw_put (t := 0) (ji := 1) (q := 5) mX7_bracket dX7_bracket_2 rfl f7_123 rfl kd_32 rfl (Or.inl rfl) (Or.inl (by decide)) (fun μ_2 e_2 => ?_)
  have hl : Lay n μ_2 := by rw [e_2]; exact Lay.setF lf_32_1 hl
  refine aw_aload_n (q := 6) mX7_bracket dX7_bracket_5 rfl rfl ?_
  refine aw_aload_n (q := 7) mX7_bracket dX7_bracket_6 rfl rfl ?_
  refine aw_iload_n (q := 8) mX7_bracket dX7_bracket_7 rfl rfl ?_
  refine aw_iload_n (q := 9) mX7_bracket dX7_bracket_8 rfl rfl ?_
  have hO2 : Of Sst μ μ_2 := by rw [e_2]; exact Of.rf.set (Or.inr ⟨rfl, Or.inr rfl⟩)
  have hOw : Of Sw μ μ_2 := by rw [e_2]; exact Of.rf.set (by unfold Sw; omega)
  have e43 : ∀ z, μ_2 43 z = μ 43 z := fun z => hO2 43 z (by unfold Sst; omega)
  have hM2 : Mp μ_2 := hM.keep (Sst.be hO2) (fun j _ _ => hO2 32 j (by unfold Sst; omega)) (fun a j _ _ => hO2 a j (by unfold Sst; omega))
  refine aw_v2 (ci := 7) (q := 12) mX7_bracket dX7_bracket_9 rfl l7_256 k136_134 rfl kd_32 rfl rfl rfl (pX7_bracketed n μ_2 k p hl (hB.tr (Sst.be hO2)) (hD.tr (Sst.be hO2) e43) hM2) (kint (fun y μ1 hy => ?_))
  obtain ⟨o1, -, o2, o3, m, hb, hMS, hf, hv⟩ := hy
  have hO : Of Sw μ μ1 := hOw.tr o1
  have hbm : BE μ m := (Sst.be hO2).trans hb
  rw [f_br43 e43] at hf
  obtain ⟨q1, q2, q3, q4⟩ := bH43 (m := m) e43
  have hl := hl.ofW o1
  refine aw_put (t := 0) (ji := 0) (q := 15) mX7_bracket dX7_bracket_12 rfl f7_126 rfl kd_32 rfl (Or.inl rfl) (Or.inl (by decide)) (fun μ_12 e_12 => ?_)
  have hl : Lay n μ_12 := by rw [e_12]; exact Lay.setF lf_32_0 hl
  refine aw_aload_n (q := 16) mX7_bracket dX7_bracket_15 rfl rfl ?_
  refine aw_get (t := 0) (ji := 0) (q := 19) mX7_bracket dX7_bracket_16 rfl f7_126 rfl kd_32 rfl (rd_ss e_12) ?_
  refine aw_if_le (tgt := 26) (q := 22) mX7_bracket dX7_bracket_19 rfl (by decide) (fun c_19 => ?_) (fun c_19 => ?_)
  · have h0 : y = 0 := by omega
    obtain ⟨v1, v2, -⟩ := hv h0
    have hkk := f_nt0 hMS (f_br0 (by rw [← hf]; exact h0)).1
    have e8 : m 32 8 = μ 32 8 := hbm.1 8 (by decide) (by decide)
    refine aw_iload_n (q := 27) mX7_bracket dX7_bracket_26 rfl rfl ?_
    refine aw_if_eq (tgt := 39) (q := 30) mX7_bracket dX7_bracket_27 rfl (by decide) (fun c_27 => ?_) (fun c_27 => ?_)
    · refine aw_aload_n (q := 40) mX7_bracket dX7_bracket_39 rfl rfl ?_
      refine aw_get (t := 2) (ji := 44) (q := 43) mX7_bracket dX7_bracket_40 rfl f7_114 rfl kd_32 rfl (ly_32_44 hl) ?_
      refine aw_iload_n (q := 44) mX7_bracket dX7_bracket_43 rfl rfl ?_
      refine aw_iald (q := 45) mX7_bracket dX7_bracket_44 rfl kd_63 (by omega) (by omega) (rd_sn e_12 (Or.inl (by decide)) v1) ?_
      refine aw_iret mX7_bracket dX7_bracket_45 ?_
      exact qm_end hO o2 hbm hMS (Or.inr ⟨by rw [← hf]; exact h0, by unfold vl_bracket; rw [if_pos c_27], rfl⟩) (Or.inl (by rw [e_12, h0]))
    · refine aw_aload_n (q := 31) mX7_bracket dX7_bracket_30 rfl rfl ?_
      refine aw_get (t := 2) (ji := 45) (q := 34) mX7_bracket dX7_bracket_31 rfl f7_117 rfl kd_32 rfl (ly_32_45 hl) ?_
      refine aw_iload_n (q := 35) mX7_bracket dX7_bracket_34 rfl rfl ?_
      refine aw_iald (q := 36) mX7_bracket dX7_bracket_35 rfl kd_64 (by omega) (by omega) (rd_sn e_12 (Or.inl (by decide)) v2) ?_
      refine aw_goto (q := 45) mX7_bracket dX7_bracket_36 (by decide) ?_
      refine aw_iret mX7_bracket dX7_bracket_45 ?_
      refine qm_end hO o2 hbm hMS (Or.inr ⟨by rw [← hf]; exact h0, ?_, rfl⟩) (Or.inl (by rw [e_12, h0]))
      unfold vl_bracket
      rw [if_neg c_27, q1]
  · refine aw_iconst (q := 23) mX7_bracket dX7_bracket_22 rfl rfl ?_
    refine aw_goto (q := 45) mX7_bracket dX7_bracket_23 (by decide) ?_
    refine aw_iret mX7_bracket dX7_bracket_45 ?_
    exact qm_end hO o2 hbm hMS (Or.inl ⟨by rw [← hf]; omega, rfl, hf⟩) (Or.inl e_12)

/-! the call told -/
def td (μ : am_M) (k q : Int) : Int := if q = 0 then μ 34 k else if q = 1 then μ 35 k else if q = 2 then μ 36 k else if q = 3 then μ 37 k else if q = 4 then μ 38 k else if q = 5 then μ 35 k + μ 40 k else if q = 6 then μ 42 k else if q = 7 then am_bit (μ 32 5) (μ 38 k) else if q = 8 then μ 41 k else μ 43 k
theorem tX6_told {n : Nat} {μ : am_M} (k q : Int) (hJ : J n μ) : AC 64 [(2, 0), (0, k), (0, q)] n μ (fun r n1 μ1 => ∃ x, r = some (0, x) ∧ n1 = n ∧ ((¬ (0 ≤ k ∧ k < μ 32 8) ∧ x = -1 ∧ μ1 = am_set μ 0 2 1) ∨ ((0 ≤ k ∧ k < μ 32 8) ∧ ¬ (0 ≤ q ∧ q ≤ 9) ∧ x = -1 ∧ μ1 = am_set μ 0 2 2) ∨ ((0 ≤ k ∧ k < μ 32 8) ∧ (0 ≤ q ∧ q ≤ 9) ∧ x = td μ k q ∧ μ1 = am_set μ 0 2 0))) := by
  obtain ⟨hl, hB, hC, hD, hs, hM, hP⟩ := id hJ
  refine AC.of rfl ?_
  refine aw_aload_n (q := 1) mX6_told dX6_told_0 rfl rfl ?_
  refine aw_get (t := 2) (ji := 0) (q := 4) mX6_told dX6_told_1 rfl f6_12 rfl kd_0 rfl (ly_0_0 hl) ?_
  refine aw_iload_n (q := 5) mX6_told dX6_told_4 rfl rfl ?_
  refine aw_v1 (ci := 0) (q := 8) mX6_told dX6_told_5 rfl l6_85 k64_4 rfl kd_1 rfl rfl rfl (pX0_find n μ k hl hB hC) (kref (fun a ha => ?_))
  rcases ha with ⟨ha, k0, k1⟩ | ⟨ha, hn⟩
  · obtain ⟨hN, hm, hr, hD1, h24⟩ := JNb hJ k0 k1
    obtain ⟨m0, m1, m2, m3, m5, m6, m7, m8, m9, m10, mc⟩ := hm
    rw [← ha] at hr m0 m1 m2 m3 m5 m6 m7 m8 m9 m10
    have hk_a := hr.k
    have hg_a := hr.1
    refine aw_astore_n (q := 9) mX6_told dX6_told_8 rfl (by decide) rfl ?_
    refine aw_aload_n (q := 10) mX6_told dX6_told_9 rfl rfl ?_
    refine aw_ifnonnull (tgt := 19) (q := 13) mX6_told dX6_told_10 rfl (by decide) (fun c_10 => ?_) (fun c_10 => ?_)
    · refine aw_iload_n (q := 20) mX6_told dX6_told_19 rfl rfl ?_
      by_cases hq : 0 ≤ q ∧ q ≤ 9
      · have hqc : q = 0 ∨ q = 1 ∨ q = 2 ∨ q = 3 ∨ q = 4 ∨ q = 5 ∨ q = 6 ∨ q = 7 ∨ q = 8 ∨ q = 9 := by omega
        rcases hqc with rfl | rfl | rfl | rfl | rfl | rfl | rfl | rfl | rfl | rfl
        · refine aw_tableIn (q := 76) mX6_told dX6_told_20 (by decide) (by decide) rfl (by decide) ?_
          refine aw_aload_n (q := 77) mX6_told dX6_told_76 rfl rfl ?_
          refine aw_aload_n (q := 78) mX6_told dX6_told_77 rfl rfl ?_
          refine aw_get (t := 0) (ji := 6) (q := 81) mX6_told dX6_told_78 rfl f6_109 rfl hk_a rfl m6 ?_
          refine aw_v1 (ci := 6) (q := 84) mX6_told dX6_told_81 rfl l6_60 k64_82 rfl kd_0 rfl rfl rfl (pX6_give n μ (μ 34 k)) (kset (fun μ2 h2 => ?_))
          refine aw_iret mX6_told dX6_told_84 ?_
          exact ⟨_, rfl, rfl, Or.inr (Or.inr ⟨⟨k0, k1⟩, hq, rfl, h2⟩)⟩
        · refine aw_tableIn (q := 85) mX6_told dX6_told_20 (by decide) (by decide) rfl (by decide) ?_
          refine aw_aload_n (q := 86) mX6_told dX6_told_85 rfl rfl ?_
          refine aw_aload_n (q := 87) mX6_told dX6_told_86 rfl rfl ?_
          refine aw_get (t := 0) (ji := 0) (q := 90) mX6_told dX6_told_87 rfl f6_98 rfl hk_a rfl m0 ?_
          refine aw_v1 (ci := 6) (q := 93) mX6_told dX6_told_90 rfl l6_60 k64_82 rfl kd_0 rfl rfl rfl (pX6_give n μ (μ 35 k)) (kset (fun μ2 h2 => ?_))
          refine aw_iret mX6_told dX6_told_93 ?_
          exact ⟨_, rfl, rfl, Or.inr (Or.inr ⟨⟨k0, k1⟩, hq, rfl, h2⟩)⟩
        · refine aw_tableIn (q := 94) mX6_told dX6_told_20 (by decide) (by decide) rfl (by decide) ?_
          refine aw_aload_n (q := 95) mX6_told dX6_told_94 rfl rfl ?_
          refine aw_aload_n (q := 96) mX6_told dX6_told_95 rfl rfl ?_
          refine aw_get (t := 0) (ji := 1) (q := 99) mX6_told dX6_told_96 rfl f6_128 rfl hk_a rfl m1 ?_
          refine aw_v1 (ci := 6) (q := 102) mX6_told dX6_told_99 rfl l6_60 k64_82 rfl kd_0 rfl rfl rfl (pX6_give n μ (μ 36 k)) (kset (fun μ2 h2 => ?_))
          refine aw_iret mX6_told dX6_told_102 ?_
          exact ⟨_, rfl, rfl, Or.inr (Or.inr ⟨⟨k0, k1⟩, hq, rfl, h2⟩)⟩
        · refine aw_tableIn (q := 103) mX6_told dX6_told_20 (by decide) (by decide) rfl (by decide) ?_
          refine aw_aload_n (q := 104) mX6_told dX6_told_103 rfl rfl ?_
          refine aw_aload_n (q := 105) mX6_told dX6_told_104 rfl rfl ?_
          refine aw_get (t := 0) (ji := 2) (q := 108) mX6_told dX6_told_105 rfl f6_131 rfl hk_a rfl m2 ?_
          refine aw_v1 (ci := 6) (q := 111) mX6_told dX6_told_108 rfl l6_60 k64_82 rfl kd_0 rfl rfl rfl (pX6_give n μ (μ 37 k)) (kset (fun μ2 h2 => ?_))
          refine aw_iret mX6_told dX6_told_111 ?_
          exact ⟨_, rfl, rfl, Or.inr (Or.inr ⟨⟨k0, k1⟩, hq, rfl, h2⟩)⟩
        · refine aw_tableIn (q := 112) mX6_told dX6_told_20 (by decide) (by decide) rfl (by decide) ?_
          refine aw_aload_n (q := 113) mX6_told dX6_told_112 rfl rfl ?_
          refine aw_aload_n (q := 114) mX6_told dX6_told_113 rfl rfl ?_
          refine aw_get (t := 0) (ji := 3) (q := 117) mX6_told dX6_told_114 rfl f6_134 rfl hk_a rfl m3 ?_
          refine aw_v1 (ci := 6) (q := 120) mX6_told dX6_told_117 rfl l6_60 k64_82 rfl kd_0 rfl rfl rfl (pX6_give n μ (μ 38 k)) (kset (fun μ2 h2 => ?_))
          refine aw_iret mX6_told dX6_told_120 ?_
          exact ⟨_, rfl, rfl, Or.inr (Or.inr ⟨⟨k0, k1⟩, hq, rfl, h2⟩)⟩
        · refine aw_tableIn (q := 121) mX6_told dX6_told_20 (by decide) (by decide) rfl (by decide) ?_
          refine aw_aload_n (q := 122) mX6_told dX6_told_121 rfl rfl ?_
          refine aw_aload_n (q := 123) mX6_told dX6_told_122 rfl rfl ?_
          refine aw_get (t := 0) (ji := 8) (q := 126) mX6_told dX6_told_123 rfl f6_95 rfl hk_a rfl m8 ?_
          refine aw_v1 (ci := 6) (q := 129) mX6_told dX6_told_126 rfl l6_60 k64_82 rfl kd_0 rfl rfl rfl (pX6_give n μ (μ 35 k + μ 40 k)) (kset (fun μ2 h2 => ?_))
          refine aw_iret mX6_told dX6_told_129 ?_
          exact ⟨_, rfl, rfl, Or.inr (Or.inr ⟨⟨k0, k1⟩, hq, rfl, h2⟩)⟩
        · refine aw_tableIn (q := 130) mX6_told dX6_told_20 (by decide) (by decide) rfl (by decide) ?_
          refine aw_aload_n (q := 131) mX6_told dX6_told_130 rfl rfl ?_
          refine aw_aload_n (q := 132) mX6_told dX6_told_131 rfl rfl ?_
          refine aw_get (t := 0) (ji := 9) (q := 135) mX6_told dX6_told_132 rfl f6_115 rfl hk_a rfl m9 ?_
          refine aw_v1 (ci := 6) (q := 138) mX6_told dX6_told_135 rfl l6_60 k64_82 rfl kd_0 rfl rfl rfl (pX6_give n μ (μ 42 k)) (kset (fun μ2 h2 => ?_))
          refine aw_iret mX6_told dX6_told_138 ?_
          exact ⟨_, rfl, rfl, Or.inr (Or.inr ⟨⟨k0, k1⟩, hq, rfl, h2⟩)⟩
        · refine aw_tableIn (q := 139) mX6_told dX6_told_20 (by decide) (by decide) rfl (by decide) ?_
          have hsh := pX0_isShown n μ a hl hk_a
          rw [m3, hC.2.1.2.2.2.2.2.1] at hsh
          have h01 := am_bit01 (μ 32 5) (μ 38 k)
          refine aw_aload_n (q := 140) mX6_told dX6_told_139 rfl rfl ?_
          refine aw_aload_n (q := 141) mX6_told dX6_told_140 rfl rfl ?_
          refine aw_get (t := 2) (ji := 0) (q := 144) mX6_told dX6_told_141 rfl f6_12 rfl kd_0 rfl (ly_0_0 hl) ?_
          refine aw_aload_n (q := 145) mX6_told dX6_told_144 rfl rfl ?_
          refine aw_v1 (ci := 0) (q := 148) mX6_told dX6_told_145 rfl l6_137 k64_5 rfl kd_1 rfl rfl rfl (hsh) (kint (fun y μ3 hy => ?_))
          obtain ⟨hmm, hy⟩ := hy
          subst hmm
          refine aw_if_eq (tgt := 155) (q := 151) mX6_told dX6_told_148 rfl (by decide) (fun c_148 => ?_) (fun c_148 => ?_)
          · refine aw_iconst (q := 156) mX6_told dX6_told_155 rfl rfl ?_
            refine aw_v1 (ci := 6) (q := 159) mX6_told dX6_told_156 rfl l6_60 k64_82 rfl kd_0 rfl rfl rfl (pX6_give n μ3 0) (kset (fun μ2 h2 => ?_))
            refine aw_iret mX6_told dX6_told_159 ?_
            exact ⟨_, rfl, rfl, Or.inr (Or.inr ⟨⟨k0, k1⟩, hq, by show 0 = am_bit (μ3 32 5) (μ3 38 k); omega, h2⟩)⟩
          · refine aw_iconst (q := 152) mX6_told dX6_told_151 rfl rfl ?_
            refine aw_goto (q := 156) mX6_told dX6_told_152 (by decide) ?_
            refine aw_v1 (ci := 6) (q := 159) mX6_told dX6_told_156 rfl l6_60 k64_82 rfl kd_0 rfl rfl rfl (pX6_give n μ3 1) (kset (fun μ2 h2 => ?_))
            refine aw_iret mX6_told dX6_told_159 ?_
            exact ⟨_, rfl, rfl, Or.inr (Or.inr ⟨⟨k0, k1⟩, hq, by show 1 = am_bit (μ3 32 5) (μ3 38 k); omega, h2⟩)⟩
        · refine aw_tableIn (q := 160) mX6_told dX6_told_20 (by decide) (by decide) rfl (by decide) ?_
          refine aw_aload_n (q := 161) mX6_told dX6_told_160 rfl rfl ?_
          refine aw_aload_n (q := 162) mX6_told dX6_told_161 rfl rfl ?_
          refine aw_get (t := 0) (ji := 5) (q := 165) mX6_told dX6_told_162 rfl f6_92 rfl hk_a rfl m5 ?_
          refine aw_v1 (ci := 6) (q := 168) mX6_told dX6_told_165 rfl l6_60 k64_82 rfl kd_0 rfl rfl rfl (pX6_give n μ (μ 41 k)) (kset (fun μ2 h2 => ?_))
          refine aw_iret mX6_told dX6_told_168 ?_
          exact ⟨_, rfl, rfl, Or.inr (Or.inr ⟨⟨k0, k1⟩, hq, rfl, h2⟩)⟩
        · refine aw_tableIn (q := 169) mX6_told dX6_told_20 (by decide) (by decide) rfl (by decide) ?_
          refine aw_aload_n (q := 170) mX6_told dX6_told_169 rfl rfl ?_
          refine aw_aload_n (q := 171) mX6_told dX6_told_170 rfl rfl ?_
          refine aw_get (t := 0) (ji := 10) (q := 174) mX6_told dX6_told_171 rfl f6_112 rfl hk_a rfl m10 ?_
          refine aw_v1 (ci := 6) (q := 177) mX6_told dX6_told_174 rfl l6_60 k64_82 rfl kd_0 rfl rfl rfl (pX6_give n μ (μ 43 k)) (kset (fun μ2 h2 => ?_))
          refine aw_iret mX6_told dX6_told_177 ?_
          exact ⟨_, rfl, rfl, Or.inr (Or.inr ⟨⟨k0, k1⟩, hq, rfl, h2⟩)⟩
      · refine aw_tableOut (q := 178) mX6_told dX6_told_20 (by omega) (by decide) ?_
        refine aw_aload_n (q := 179) mX6_told dX6_told_178 rfl rfl ?_
        refine aw_iconst (q := 180) mX6_told dX6_told_179 rfl rfl ?_
        refine aw_v1 (ci := 6) (q := 183) mX6_told dX6_told_180 rfl l6_50 k64_83 rfl kd_0 rfl rfl rfl (pX6_none n μ 2) (kset (fun μ2 h2 => ?_))
        refine aw_iret mX6_told dX6_told_183 ?_
        exact ⟨_, rfl, rfl, Or.inr (Or.inl ⟨⟨k0, k1⟩, hq, rfl, h2⟩)⟩
    · exact absurd (show 0 ≤ a by omega) c_10
  · refine aw_astore_n (q := 9) mX6_told dX6_told_8 rfl (by decide) rfl ?_
    refine aw_aload_n (q := 10) mX6_told dX6_told_9 rfl rfl ?_
    refine aw_ifnonnull (tgt := 19) (q := 13) mX6_told dX6_told_10 rfl (by decide) (fun c_10 => ?_) (fun c_10 => ?_)
    · exact absurd c_10 (by omega)
    · refine aw_aload_n (q := 14) mX6_told dX6_told_13 rfl rfl ?_
      refine aw_iconst (q := 15) mX6_told dX6_told_14 rfl rfl ?_
      refine aw_v1 (ci := 6) (q := 18) mX6_told dX6_told_15 rfl l6_50 k64_83 rfl kd_0 rfl rfl rfl (pX6_none n μ 1) (kset (fun μ2 h2 => ?_))
      refine aw_iret mX6_told dX6_told_18 ?_
      exact ⟨_, rfl, rfl, Or.inl ⟨hn, rfl, h2⟩⟩
theorem pr_told {n : Nat} {μ : am_M} (k q : Int) (hJ : J n μ) : Prx 64 109 [(0, k), (0, q)] n μ := by
  obtain ⟨hl, hB, hC, hD, hs, hM, hP⟩ := id hJ
  refine Prx.of (tX6_told k q hJ) ?_
  rintro x n1 μ1 ⟨rfl, h1⟩
  have hO1 : Of Sst μ μ1 := by
    rcases h1 with ⟨-, -, e1⟩ | ⟨-, -, -, e1⟩ | ⟨-, -, -, e1⟩ <;> rw [e1] <;> exact Of.rf.set (Or.inl ⟨rfl, rfl⟩)
  have hl1 : Lay n1 μ1 := Sst_lay hl hO1
  have hl := hl1
  refine AC.of rfl ?_
  refine aw_aload_n (q := 1) mX7_told dX7_told_0 rfl rfl ?_
  refine aw_iconst (q := 2) mX7_told dX7_told_1 rfl rfl ?_
  refine aw_put (t := 0) (ji := 1) (q := 5) mX7_told dX7_told_2 rfl f7_123 rfl kd_32 rfl (Or.inl rfl) (Or.inl (by decide)) (fun μ_2 e_2 => ?_)
  have hl : Lay n1 μ_2 := by rw [e_2]; exact Lay.setF lf_32_1 hl
  refine aw_aload_n (q := 6) mX7_told dX7_told_5 rfl rfl ?_
  refine aw_iconst (q := 7) mX7_told dX7_told_6 rfl rfl ?_
  refine aw_put (t := 0) (ji := 0) (q := 10) mX7_told dX7_told_7 rfl f7_126 rfl kd_32 rfl (Or.inl rfl) (Or.inl (by decide)) (fun μ_7 e_7 => ?_)
  have hl : Lay n1 μ_7 := by rw [e_7]; exact Lay.setF lf_32_0 hl
  refine aw_aload_n (q := 11) mX7_told dX7_told_10 rfl rfl ?_
  refine aw_iload_n (q := 12) mX7_told dX7_told_11 rfl rfl ?_
  have hO7 : Of Sst μ μ_7 := by rw [e_7, e_2]; exact (hO1.set (Or.inr ⟨rfl, Or.inr rfl⟩)).set (Or.inr ⟨rfl, Or.inl rfl⟩)
  have hin := pX7_isNote n1 μ_7 k
  rw [hO7 32 8 (by unfold Sst; omega)] at hin
  refine aw_v1 (ci := 7) (q := 15) mX7_told dX7_told_12 rfl l7_154 k109_93 rfl kd_32 rfl rfl rfl (hin) (kint (fun y μ3 hy => ?_))
  obtain ⟨hm3, hy⟩ := hy
  subst hm3
  refine aw_if_ne (tgt := 24) (q := 18) mX7_told dX7_told_15 rfl (by decide) (fun c_15 => ?_) (fun c_15 => ?_)
  rotate_left
  · rcases h1 with ⟨-, hx, e1⟩ | ⟨hk, -⟩ | ⟨hk, -⟩
    · refine aw_aload_n (q := 19) mX7_told dX7_told_18 rfl rfl ?_
      refine aw_iconst (q := 20) mX7_told dX7_told_19 rfl rfl ?_
      refine aw_v1 (ci := 7) (q := 23) mX7_told dX7_told_20 rfl l7_147 k109_89 rfl kd_32 rfl rfl rfl (pX7_refuse n1 μ3 1) (kset (fun μ4 h4 => ?_))
      refine aw_iret mX7_told dX7_told_23 ?_
      exact ⟨by rw [hx], hJ.ref (w := 1) (by rw [h4, e_7, e_2, e1])⟩
    · exfalso; omega
    · exfalso; omega
  have k0 : 0 ≤ k := by omega
  have k1 : k < μ 32 8 := by omega
  obtain ⟨hN, hm, hr, hD1, h24⟩ := JNb hJ k0 k1
  have hBE := Sst.be hO7
  refine aw_iload_n (q := 25) mX7_told dX7_told_24 rfl rfl ?_
  rcases h1 with ⟨hk, -⟩ | ⟨-, hq, hx, e1⟩ | ⟨-, hq, hx, e1⟩
  · exact absurd ⟨k0, k1⟩ hk
  · refine aw_tableOut (q := 156) mX7_told dX7_told_25 (by omega) (by decide) ?_
    refine aw_aload_n (q := 157) mX7_told dX7_told_156 rfl rfl ?_
    refine aw_iconst (q := 158) mX7_told dX7_told_157 rfl rfl ?_
    refine aw_v1 (ci := 7) (q := 161) mX7_told dX7_told_158 rfl l7_147 k109_89 rfl kd_32 rfl rfl rfl (pX7_refuse n1 μ3 2) (kset (fun μ4 h4 => ?_))
    refine aw_iret mX7_told dX7_told_161 ?_
    exact ⟨by rw [hx], hJ.ref (w := 2) (by rw [h4, e_7, e_2, e1])⟩
  · have hJ3 : J n1 μ3 := hJ.no hO7 (by rw [e_7, am_sn (Or.inl (by decide)), am_ss, e_2, am_sn (Or.inl (by decide)), e1, am_ss])
    have kk : ∀ a, 34 ≤ a → a ≤ 43 → μ3 a k = μ a k := fun a a0 a1 => hO7 a k (by unfold Sst; omega)
    have hqc : q = 0 ∨ q = 1 ∨ q = 2 ∨ q = 3 ∨ q = 4 ∨ q = 5 ∨ q = 6 ∨ q = 7 ∨ q = 8 ∨ q = 9 := by omega
    rcases hqc with rfl | rfl | rfl | rfl | rfl | rfl | rfl | rfl | rfl | rfl
    · refine aw_tableIn (q := 80) mX7_told dX7_told_25 (by decide) (by decide) rfl (by decide) ?_
      refine aw_aload_n (q := 81) mX7_told dX7_told_80 rfl rfl ?_
      refine aw_get (t := 2) (ji := 10) (q := 84) mX7_told dX7_told_81 rfl f7_26 rfl kd_32 rfl (ly_32_10 hl) ?_
      refine aw_iload_n (q := 85) mX7_told dX7_told_84 rfl rfl ?_
      refine aw_iald (q := 86) mX7_told dX7_told_85 rfl kd_34 (by omega) (by omega) (kk 34 (by decide) (by decide)) ?_
      refine aw_iret mX7_told dX7_told_86 ?_
      exact ⟨by rw [hx]; rfl, hJ3⟩
    · refine aw_tableIn (q := 87) mX7_told dX7_told_25 (by decide) (by decide) rfl (by decide) ?_
      refine aw_aload_n (q := 88) mX7_told dX7_told_87 rfl rfl ?_
      refine aw_get (t := 2) (ji := 11) (q := 91) mX7_told dX7_told_88 rfl f7_29 rfl kd_32 rfl (ly_32_11 hl) ?_
      refine aw_iload_n (q := 92) mX7_told dX7_told_91 rfl rfl ?_
      refine aw_iald (q := 93) mX7_told dX7_told_92 rfl kd_35 (by omega) (by omega) (kk 35 (by decide) (by decide)) ?_
      refine aw_iret mX7_told dX7_told_93 ?_
      exact ⟨by rw [hx]; rfl, hJ3⟩
    · refine aw_tableIn (q := 94) mX7_told dX7_told_25 (by decide) (by decide) rfl (by decide) ?_
      refine aw_aload_n (q := 95) mX7_told dX7_told_94 rfl rfl ?_
      refine aw_get (t := 2) (ji := 12) (q := 98) mX7_told dX7_told_95 rfl f7_32 rfl kd_32 rfl (ly_32_12 hl) ?_
      refine aw_iload_n (q := 99) mX7_told dX7_told_98 rfl rfl ?_
      refine aw_iald (q := 100) mX7_told dX7_told_99 rfl kd_36 (by omega) (by omega) (kk 36 (by decide) (by decide)) ?_
      refine aw_iret mX7_told dX7_told_100 ?_
      exact ⟨by rw [hx]; rfl, hJ3⟩
    · refine aw_tableIn (q := 101) mX7_told dX7_told_25 (by decide) (by decide) rfl (by decide) ?_
      refine aw_aload_n (q := 102) mX7_told dX7_told_101 rfl rfl ?_
      refine aw_get (t := 2) (ji := 13) (q := 105) mX7_told dX7_told_102 rfl f7_35 rfl kd_32 rfl (ly_32_13 hl) ?_
      refine aw_iload_n (q := 106) mX7_told dX7_told_105 rfl rfl ?_
      refine aw_iald (q := 107) mX7_told dX7_told_106 rfl kd_37 (by omega) (by omega) (kk 37 (by decide) (by decide)) ?_
      refine aw_iret mX7_told dX7_told_107 ?_
      exact ⟨by rw [hx]; rfl, hJ3⟩
    · refine aw_tableIn (q := 108) mX7_told dX7_told_25 (by decide) (by decide) rfl (by decide) ?_
      refine aw_aload_n (q := 109) mX7_told dX7_told_108 rfl rfl ?_
      refine aw_get (t := 2) (ji := 14) (q := 112) mX7_told dX7_told_109 rfl f7_38 rfl kd_32 rfl (ly_32_14 hl) ?_
      refine aw_iload_n (q := 113) mX7_told dX7_told_112 rfl rfl ?_
      refine aw_iald (q := 114) mX7_told dX7_told_113 rfl kd_38 (by omega) (by omega) (kk 38 (by decide) (by decide)) ?_
      refine aw_iret mX7_told dX7_told_114 ?_
      exact ⟨by rw [hx]; rfl, hJ3⟩
    · refine aw_tableIn (q := 115) mX7_told dX7_told_25 (by decide) (by decide) rfl (by decide) ?_
      have hta := pX7_tallOf n1 μ3 k hJ3.1 k0 h24 (hN.tr hBE)
      rw [kk 35 (by decide) (by decide), kk 40 (by decide) (by decide)] at hta
      refine aw_aload_n (q := 116) mX7_told dX7_told_115 rfl rfl ?_
      refine aw_iload_n (q := 117) mX7_told dX7_told_116 rfl rfl ?_
      refine aw_v1 (ci := 7) (q := 120) mX7_told dX7_told_117 rfl l7_160 k109_108 rfl kd_32 rfl rfl rfl (hta) (kpure ?_)
      refine aw_iret mX7_told dX7_told_120 ?_
      exact ⟨by rw [hx]; rfl, hJ3⟩
    · refine aw_tableIn (q := 121) mX7_told dX7_told_25 (by decide) (by decide) rfl (by decide) ?_
      refine aw_aload_n (q := 122) mX7_told dX7_told_121 rfl rfl ?_
      refine aw_get (t := 2) (ji := 18) (q := 125) mX7_told dX7_told_122 rfl f7_50 rfl kd_32 rfl (ly_32_18 hl) ?_
      refine aw_iload_n (q := 126) mX7_told dX7_told_125 rfl rfl ?_
      refine aw_iald (q := 127) mX7_told dX7_told_126 rfl kd_42 (by omega) (by omega) (kk 42 (by decide) (by decide)) ?_
      refine aw_iret mX7_told dX7_told_127 ?_
      exact ⟨by rw [hx]; rfl, hJ3⟩
    · refine aw_tableIn (q := 128) mX7_told dX7_told_25 (by decide) (by decide) rfl (by decide) ?_
      have hsh := pX7_isShown n1 μ3 k hJ3.1 k0 h24
      unfold md_sh at hsh
      rw [hO7 32 5 (by unfold Sst; omega), kk 38 (by decide) (by decide)] at hsh
      have h01 := am_bit01 (μ 32 5) (μ 38 k)
      have hx2 : x = am_bit (μ 32 5) (μ 38 k) := hx
      refine aw_aload_n (q := 129) mX7_told dX7_told_128 rfl rfl ?_
      refine aw_iload_n (q := 130) mX7_told dX7_told_129 rfl rfl ?_
      refine aw_v1 (ci := 7) (q := 133) mX7_told dX7_told_130 rfl l7_163 k109_107 rfl kd_32 rfl rfl rfl (hsh) (kint (fun y' μ4 hy' => ?_))
      obtain ⟨hm4, hy'⟩ := hy'
      subst hm4
      refine aw_if_eq (tgt := 140) (q := 136) mX7_told dX7_told_133 rfl (by decide) (fun c_133 => ?_) (fun c_133 => ?_)
      · refine aw_iconst (q := 141) mX7_told dX7_told_140 rfl rfl ?_
        refine aw_iret mX7_told dX7_told_141 ?_
        exact ⟨by congr 2; omega, hJ3⟩
      · refine aw_iconst (q := 137) mX7_told dX7_told_136 rfl rfl ?_
        refine aw_goto (q := 141) mX7_told dX7_told_137 (by decide) ?_
        refine aw_iret mX7_told dX7_told_141 ?_
        exact ⟨by congr 2; omega, hJ3⟩
    · refine aw_tableIn (q := 142) mX7_told dX7_told_25 (by decide) (by decide) rfl (by decide) ?_
      refine aw_aload_n (q := 143) mX7_told dX7_told_142 rfl rfl ?_
      refine aw_get (t := 2) (ji := 17) (q := 146) mX7_told dX7_told_143 rfl f7_47 rfl kd_32 rfl (ly_32_17 hl) ?_
      refine aw_iload_n (q := 147) mX7_told dX7_told_146 rfl rfl ?_
      refine aw_iald (q := 148) mX7_told dX7_told_147 rfl kd_41 (by omega) (by omega) (kk 41 (by decide) (by decide)) ?_
      refine aw_iret mX7_told dX7_told_148 ?_
      exact ⟨by rw [hx]; rfl, hJ3⟩
    · refine aw_tableIn (q := 149) mX7_told dX7_told_25 (by decide) (by decide) rfl (by decide) ?_
      refine aw_aload_n (q := 150) mX7_told dX7_told_149 rfl rfl ?_
      refine aw_get (t := 2) (ji := 19) (q := 153) mX7_told dX7_told_150 rfl f7_53 rfl kd_32 rfl (ly_32_19 hl) ?_
      refine aw_iload_n (q := 154) mX7_told dX7_told_153 rfl rfl ?_
      refine aw_iald (q := 155) mX7_told dX7_told_154 rfl kd_43 (by omega) (by omega) (kk 43 (by decide) (by decide)) ?_
      refine aw_iret mX7_told dX7_told_155 ?_
      exact ⟨by rw [hx]; rfl, hJ3⟩

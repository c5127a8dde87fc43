/-- the place t keeps the least cost -/
def md_at (μ : am_M) (c i t want : Int) : Prop := (t + md_tall μ i c ≤ μ 32 2 ∧ (μ 42 (μ 59 i) < 0 ∨ μ 42 (μ 59 i) = t)) ∧ rw_af (μ 32 2) (μ 32 3) (md_R μ c i) (t + md_tall μ i c + μ 32 3) < rw_NV ∧ rw_af (μ 32 2) (μ 32 3) (md_R μ c i) (t + md_tall μ i c + μ 32 3) + rw_own (md_it μ c i) t = want
/-- a memory that has the table of μ, and the same book, row and line tops -/
def Ts (μ μ1 : am_M) (c : Int) : Prop := BE μ μ1 ∧ RE μ μ1 ∧ (∀ j, μ1 49 j = μ 49 j) ∧ Tb μ μ1 c (-1)
theorem pX7_isAt (n : Nat) (μ μ1 : am_M) (c i t want : Int) (hl : Lay n μ1) (hB : Bk μ) (hR : Rv μ) (hL : Lt μ) (hc0 : 0 ≤ c) (hc1 : c < md_choices μ) (hi0 : 0 ≤ i) (hi1 : i < μ 32 40) (ht0 : 0 ≤ t) (ht1 : t ≤ 1000) (hta : 0 ≤ md_tall μ i c) (hT : Ts μ μ1 c) : AC 122 [(2, 32), (0, i), (0, c), (0, t), (1, want)] n μ1 (PB (md_at μ c i t want) n μ1) := by
  obtain ⟨hBE, hRE, h49, hTb⟩ := hT
  have hb := md_tall_b hB hR hi0 hi1 hc0 hc1
  obtain ⟨r1, r2⟩ := id hR
  obtain ⟨b1, b2, -, -, -, b6, b7, -, b9⟩ := id hB
  have hr := r2 i hi0 hi1
  have hN := b9 _ hr.1 hr.2
  obtain ⟨n1, n2, n3, n4, n5, n6, n7, n8, n9, -⟩ := id hN
  have hLi := hL i hi0 hi1
  have hok := md_it_ok hB hR hL hi0 hi1 hc0 hc1
  have hNV : rw_NV = 1000000000000 := rfl
  have e59 : μ1 59 i = μ 59 i := hRE.2 i
  have e40 : μ1 32 40 = μ 32 40 := hRE.1
  have e2 : μ1 32 2 = μ 32 2 := hBE.1 2 (by decide) (by decide)
  have e3 : μ1 32 3 = μ 32 3 := hBE.1 3 (by decide) (by decide)
  have e42 : μ1 42 (μ 59 i) = μ 42 (μ 59 i) := hBE.2 42 _ (by decide) (by decide)
  have htall := pX7_tall n μ1 i c hl (hB.tr hBE) (hR.tr hBE hRE) hi0 (by omega) hc0 (by rw [md_choices_tr hBE hRE]; exact hc1)
  rw [md_tall_tr hBE hRE] at htall
  unfold md_at
  -- fits the page, and where it is fixed
  have K : t + md_tall μ i c ≤ μ 32 2 → (μ 42 (μ 59 i) < 0 ∨ μ 42 (μ 59 i) = t) → AW none 122 50 [(2, 32), (0, i), (0, c), (0, t), (1, want), (9, 0), (0, μ 59 i), (0, md_tall μ i c), (9, 0), (9, 0), (9, 0)] [] n μ1 (PB ((t + md_tall μ i c ≤ μ 32 2 ∧ (μ 42 (μ 59 i) < 0 ∨ μ 42 (μ 59 i) = t)) ∧ rw_af (μ 32 2) (μ 32 3) (md_R μ c i) (t + md_tall μ i c + μ 32 3) < rw_NV ∧ rw_af (μ 32 2) (μ 32 3) (md_R μ c i) (t + md_tall μ i c + μ 32 3) + rw_own (md_it μ c i) t = want) n μ1) := by
    intro k1 k2
    obtain ⟨z, hz⟩ : ∃ z, z = t + md_tall μ i c + μ 32 3 := ⟨_, rfl⟩
    rw [← hz]
    have hown := pX7_own n μ1 (μ 59 i) t (md_tall μ i c) 0 hl (by omega) (by omega) (hN.tr hBE) (by rw [hBE.1 7 (by decide) (by decide)]; omega) (by omega) (by omega) (by rw [h49, hBE.2 34 _ (by decide) (by decide)]; exact hLi.1) (by rw [h49, hBE.2 34 _ (by decide) (by decide)]; exact hLi.2)
    rw [h49, hBE.2 34 _ (by decide) (by decide), e42, hBE.2 36 _ (by decide) (by decide)] at hown
    have hob := rw_own_b hok (x := t) (by omega) (by omega)
    have K2 : ∀ a : Int, a = rw_af (μ 32 2) (μ 32 3) (md_R μ c i) z → AW none 122 104 [(2, 32), (0, i), (0, c), (0, t), (1, want), (9, 0), (0, μ 59 i), (0, md_tall μ i c), (0, z), (9, 0), (9, 0)] [(1, a)] n μ1 (PB ((t + md_tall μ i c ≤ μ 32 2 ∧ (μ 42 (μ 59 i) < 0 ∨ μ 42 (μ 59 i) = t)) ∧ rw_af (μ 32 2) (μ 32 3) (md_R μ c i) z < rw_NV ∧ rw_af (μ 32 2) (μ 32 3) (md_R μ c i) z + rw_own (md_it μ c i) t = want) n μ1) := by
      intro a ha
      rw [← ha]
      have hcm : 0 ≤ am_cmp a 1000000000000 ↔ ¬ a < rw_NV := by
        unfold am_cmp
        constructor
        · intro h q
          rw [if_neg (by omega), if_neg (by omega)] at h
          exact absurd h (by decide)
        · intro h
          split
          · decide
          · rw [if_pos (by omega)]; decide
      refine aw_lstore (q := 106) mX7_isAt dX7_isAt_104 rfl (by decide) rfl ?_
      refine aw_lload (q := 108) mX7_isAt dX7_isAt_106 rfl rfl ?_
      refine aw_ldc2 (q := 111) mX7_isAt dX7_isAt_108 rfl ld7_198 ?_
      refine aw_lcmp (q := 112) mX7_isAt dX7_isAt_111 rfl ?_
      refine aw_if_ge (tgt := 135) (q := 115) mX7_isAt dX7_isAt_112 rfl (by decide) (fun c_112 => ?_) (fun c_112 => ?_)
      · refine aw_iconst (q := 136) mX7_isAt dX7_isAt_135 rfl rfl ?_
        refine aw_zret mX7_isAt dX7_isAt_136 (by first | exact Or.inl rfl | exact Or.inr rfl | assumption | omega) ?_
        exact ⟨0, rfl, rfl, rfl, Or.inr ⟨rfl, fun q => (hcm.mp c_112) q.2.1⟩⟩
      · have hlt : a < rw_NV := Decidable.not_not.mp (fun q => c_112 (hcm.mpr q))
        have hab := md_af_b hB hR hL hi0 hi1 hc0 hc1 (show 0 ≤ z by omega) (by rw [← ha]; exact hlt)
        rw [← ha] at hab
        have hc2 : am_cmp (a + rw_own (md_it μ c i) t) want = 0 ↔ a + rw_own (md_it μ c i) t = want := by
          unfold am_cmp
          constructor
          · intro h
            split at h
            · exact absurd h (by decide)
            · split at h
              · assumption
              · exact absurd h (by decide)
          · intro h
            rw [if_neg (by omega), if_pos h]
        refine aw_lload (q := 117) mX7_isAt dX7_isAt_115 rfl rfl ?_
        refine aw_aload_n (q := 118) mX7_isAt dX7_isAt_117 rfl rfl ?_
        refine aw_iload (q := 120) mX7_isAt dX7_isAt_118 rfl rfl ?_
        refine aw_iload_n (q := 121) mX7_isAt dX7_isAt_120 rfl rfl ?_
        refine aw_v2 (ci := 7) (q := 124) mX7_isAt dX7_isAt_121 rfl l7_200 k122_119 rfl kd_32 rfl rfl rfl (hown) (kpure ?_)
        refine aw_ladd (q := 125) mX7_isAt dX7_isAt_124 rfl (by show _ ≤ a + rw_own (md_it μ c i) t; omega) (by show a + rw_own (md_it μ c i) t < _; omega) ?_
        refine aw_lload (q := 127) mX7_isAt dX7_isAt_125 rfl rfl ?_
        refine aw_lcmp (q := 128) mX7_isAt dX7_isAt_127 rfl ?_
        refine aw_if_ne (tgt := 135) (q := 131) mX7_isAt dX7_isAt_128 rfl (by decide) (fun c_128 => ?_) (fun c_128 => ?_)
        · refine aw_iconst (q := 136) mX7_isAt dX7_isAt_135 rfl rfl ?_
          refine aw_zret mX7_isAt dX7_isAt_136 (by first | exact Or.inl rfl | exact Or.inr rfl | assumption | omega) ?_
          exact ⟨0, rfl, rfl, rfl, Or.inr ⟨rfl, fun q => c_128 (hc2.mpr q.2.2)⟩⟩
        · refine aw_iconst (q := 132) mX7_isAt dX7_isAt_131 rfl rfl ?_
          refine aw_goto (q := 136) mX7_isAt dX7_isAt_132 (by decide) ?_
          refine aw_zret mX7_isAt dX7_isAt_136 (by first | exact Or.inl rfl | exact Or.inr rfl | assumption | omega) ?_
          exact ⟨1, rfl, rfl, rfl, Or.inl ⟨rfl, ⟨k1, k2⟩, hlt, hc2.mp (Decidable.not_not.mp c_128)⟩⟩
    refine aw_iload_n (q := 51) mX7_isAt dX7_isAt_50 rfl rfl ?_
    refine aw_iload (q := 53) mX7_isAt dX7_isAt_51 rfl rfl ?_
    refine aw_iadd (q := 54) mX7_isAt dX7_isAt_53 rfl (by omega) (by omega) ?_
    refine aw_aload_n (q := 55) mX7_isAt dX7_isAt_54 rfl rfl ?_
    refine aw_get (t := 0) (ji := 3) (q := 58) mX7_isAt dX7_isAt_55 rfl f7_13 rfl kd_32 rfl e3 ?_
    refine aw_iadd (q := 59) mX7_isAt dX7_isAt_58 rfl (by omega) (by omega) ?_
    refine aw_istore (q := 61) mX7_isAt dX7_isAt_59 rfl (by decide) rfl ?_
    refine aw_iload_n (q := 62) mX7_isAt dX7_isAt_61 rfl rfl ?_
    refine aw_aload_n (q := 63) mX7_isAt dX7_isAt_62 rfl rfl ?_
    refine aw_get (t := 0) (ji := 40) (q := 66) mX7_isAt dX7_isAt_63 rfl f7_169 rfl kd_32 rfl e40 ?_
    refine aw_iconst (q := 67) mX7_isAt dX7_isAt_66 rfl rfl ?_
    refine aw_isub (q := 68) mX7_isAt dX7_isAt_67 rfl (by omega) (by omega) ?_
    refine aw_icmp_ne (tgt := 75) (q := 71) mX7_isAt dX7_isAt_68 rfl (by decide) (fun c_68 => ?_) (fun c_68 => ?_)
    · rw [← hz]
      refine aw_iload (q := 77) mX7_isAt dX7_isAt_75 rfl rfl ?_
      refine aw_sipush (q := 80) mX7_isAt dX7_isAt_77 rfl rfl ?_
      refine aw_icmp_le (tgt := 89) (q := 83) mX7_isAt dX7_isAt_80 rfl (by decide) (fun c_80 => ?_) (fun c_80 => ?_)
      · refine aw_aload_n (q := 90) mX7_isAt dX7_isAt_89 rfl rfl ?_
        refine aw_get (t := 2) (ji := 43) (q := 93) mX7_isAt dX7_isAt_90 rfl f7_111 rfl kd_32 rfl (ly_32_43 hl) ?_
        refine aw_sipush (q := 96) mX7_isAt dX7_isAt_93 rfl rfl ?_
        refine aw_iload_n (q := 97) mX7_isAt dX7_isAt_96 rfl rfl ?_
        refine aw_iconst (q := 98) mX7_isAt dX7_isAt_97 rfl rfl ?_
        refine aw_iadd (q := 99) mX7_isAt dX7_isAt_98 rfl (by omega) (by omega) ?_
        refine aw_imul (q := 100) mX7_isAt dX7_isAt_99 rfl (by omega) (by omega) ?_
        refine aw_iload (q := 102) mX7_isAt dX7_isAt_100 rfl rfl ?_
        refine aw_iadd (q := 103) mX7_isAt dX7_isAt_102 rfl (by omega) (by omega) ?_
        refine aw_lald (q := 104) mX7_isAt dX7_isAt_103 rfl kd_62 (by omega) (by omega) rfl ?_
        exact K2 _ (md_af_near hi0 (by omega) (by omega) (by omega) (fun i' t' h1 h2 h3 h4 => hTb i' t' (by omega) h2 h3 h4))
      · refine aw_ldc2 (q := 86) mX7_isAt dX7_isAt_83 rfl ld7_198 ?_
        refine aw_goto (q := 104) mX7_isAt dX7_isAt_86 (by decide) ?_
        exact K2 _ (md_af_far hi0 (by omega) (by omega)).symm
    · rw [← hz]
      refine aw_lconst (x := 0) (q := 72) mX7_isAt dX7_isAt_71 rfl rfl ?_
      refine aw_goto (q := 104) mX7_isAt dX7_isAt_72 (by decide) ?_
      exact K2 _ (md_af_last (by omega)).symm
  refine AC.of rfl ?_
  refine aw_aload_n (q := 1) mX7_isAt dX7_isAt_0 rfl rfl ?_
  refine aw_get (t := 2) (ji := 38) (q := 4) mX7_isAt dX7_isAt_1 rfl f7_102 rfl kd_32 rfl (ly_32_38 hl) ?_
  refine aw_iload_n (q := 5) mX7_isAt dX7_isAt_4 rfl rfl ?_
  refine aw_iald (q := 6) mX7_isAt dX7_isAt_5 rfl kd_59 (by omega) (by omega) e59 ?_
  refine aw_istore (q := 8) mX7_isAt dX7_isAt_6 rfl (by decide) rfl ?_
  refine aw_aload_n (q := 9) mX7_isAt dX7_isAt_8 rfl rfl ?_
  refine aw_iload_n (q := 10) mX7_isAt dX7_isAt_9 rfl rfl ?_
  refine aw_iload_n (q := 11) mX7_isAt dX7_isAt_10 rfl rfl ?_
  refine aw_v2 (ci := 7) (q := 14) mX7_isAt dX7_isAt_11 rfl l7_172 k122_114 rfl kd_32 rfl rfl rfl (htall) (kpure ?_)
  refine aw_istore (q := 16) mX7_isAt dX7_isAt_14 rfl (by decide) rfl ?_
  refine aw_iload_n (q := 17) mX7_isAt dX7_isAt_16 rfl rfl ?_
  refine aw_iload (q := 19) mX7_isAt dX7_isAt_17 rfl rfl ?_
  refine aw_iadd (q := 20) mX7_isAt dX7_isAt_19 rfl (by omega) (by omega) ?_
  refine aw_aload_n (q := 21) mX7_isAt dX7_isAt_20 rfl rfl ?_
  refine aw_get (t := 0) (ji := 2) (q := 24) mX7_isAt dX7_isAt_21 rfl f7_7 rfl kd_32 rfl e2 ?_
  refine aw_icmp_gt (tgt := 48) (q := 27) mX7_isAt dX7_isAt_24 rfl (by decide) (fun c_24 => ?_) (fun c_24 => ?_)
  · refine aw_iconst (q := 49) mX7_isAt dX7_isAt_48 rfl rfl ?_
    refine aw_zret mX7_isAt dX7_isAt_49 (by first | exact Or.inl rfl | exact Or.inr rfl | assumption | omega) ?_
    exact ⟨0, rfl, rfl, rfl, Or.inr ⟨rfl, fun q => by omega⟩⟩
  · refine aw_aload_n (q := 28) mX7_isAt dX7_isAt_27 rfl rfl ?_
    refine aw_get (t := 2) (ji := 18) (q := 31) mX7_isAt dX7_isAt_28 rfl f7_50 rfl kd_32 rfl (ly_32_18 hl) ?_
    refine aw_iload (q := 33) mX7_isAt dX7_isAt_31 rfl rfl ?_
    refine aw_iald (q := 34) mX7_isAt dX7_isAt_33 rfl kd_42 (by omega) (by omega) e42 ?_
    refine aw_if_lt (tgt := 50) (q := 37) mX7_isAt dX7_isAt_34 rfl (by decide) (fun c_34 => ?_) (fun c_34 => ?_)
    · exact K (by omega) (Or.inl c_34)
    · refine aw_aload_n (q := 38) mX7_isAt dX7_isAt_37 rfl rfl ?_
      refine aw_get (t := 2) (ji := 18) (q := 41) mX7_isAt dX7_isAt_38 rfl f7_50 rfl kd_32 rfl (ly_32_18 hl) ?_
      refine aw_iload (q := 43) mX7_isAt dX7_isAt_41 rfl rfl ?_
      refine aw_iald (q := 44) mX7_isAt dX7_isAt_43 rfl kd_42 (by omega) (by omega) e42 ?_
      refine aw_iload_n (q := 45) mX7_isAt dX7_isAt_44 rfl rfl ?_
      refine aw_icmp_eq (tgt := 50) (q := 48) mX7_isAt dX7_isAt_45 rfl (by decide) (fun c_45 => ?_) (fun c_45 => ?_)
      · exact K (by omega) (Or.inr (by omega))
      · refine aw_iconst (q := 49) mX7_isAt dX7_isAt_48 rfl rfl ?_
        refine aw_zret mX7_isAt dX7_isAt_49 (by first | exact Or.inl rfl | exact Or.inr rfl | assumption | omega) ?_
        exact ⟨0, rfl, rfl, rfl, Or.inr ⟨rfl, fun q => by omega⟩⟩

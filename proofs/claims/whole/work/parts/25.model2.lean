def md_it (μ : am_M) (c i : Int) : rw_I := (md_tall μ i c, μ 42 (μ 59 i), μ 36 (μ 59 i), μ 49 (μ 34 (μ 59 i)))
def md_its (μ : am_M) (c : Int) : Int → Nat → List rw_I
  | _, 0 => []
  | i, k + 1 => md_it μ c i :: md_its μ c (i + 1) k
theorem pX7_stands_loop (n : Nat) (μ : am_M) (rest c : Int) (hl : Lay n μ) (hB : Bk μ) (hR : Rv μ) (hc0 : 0 ≤ c) (hc1 : c < md_choices μ) : ∀ (k : Nat) (i top : Int) (v5 v6 : am_V), 0 ≤ i → i + k = μ 32 40 → 0 ≤ top → top ≤ 1000 → AW none 115 18 [(2, 32), (0, rest), (0, c), (0, top), (0, i), v5, v6] [] n μ (PB (rw_sd (μ 32 2) (μ 32 3) top (md_its μ c i k)) n μ) := by
  obtain ⟨r1, r2⟩ := id hR
  obtain ⟨b1, b2, -, -, -, -, b7, -, b9⟩ := id hB
  intro k
  induction k with
  | zero =>
    intro i top v5 v6 hi0 hik ht0 ht1
    refine aw_iload (q := 20) mX7_stands dX7_stands_18 rfl rfl ?_
    refine aw_aload_n (q := 21) mX7_stands dX7_stands_20 rfl rfl ?_
    refine aw_get (t := 0) (ji := 40) (q := 24) mX7_stands dX7_stands_21 rfl f7_169 rfl kd_32 rfl rfl ?_
    refine aw_icmp_ge (tgt := 120) (q := 27) mX7_stands dX7_stands_24 rfl (by decide) (fun c_24 => ?_) (fun c_24 => ?_)
    · refine aw_iconst (q := 121) mX7_stands dX7_stands_120 rfl rfl ?_
      refine aw_zret mX7_stands dX7_stands_121 (by first | exact Or.inl rfl | exact Or.inr rfl | assumption | omega) ?_
      exact ⟨1, rfl, rfl, rfl, Or.inl ⟨rfl, trivial⟩⟩
    · exact absurd hik (by omega)
  | succ k ih =>
    intro i top v5 v6 hi0 hik ht0 ht1
    have h1 := r2 i hi0 (by omega)
    have hN := b9 _ h1.1 h1.2
    obtain ⟨-, n2, n3, n4, n5, n6, n7, n8, n9, n10, n11, -⟩ := id hN
    have hb := md_tall_b hB hR hi0 (show i < μ 32 40 by omega) hc0 hc1
    have hsd : rw_sd (μ 32 2) (μ 32 3) top (md_its μ c i (k + 1)) = (0 ≤ md_tall μ i c ∧ ¬ (0 ≤ μ 42 (μ 59 i) ∧ μ 42 (μ 59 i) < top) ∧ (if 0 ≤ μ 42 (μ 59 i) then μ 42 (μ 59 i) else top) + md_tall μ i c ≤ μ 32 2 ∧ rw_sd (μ 32 2) (μ 32 3) ((if 0 ≤ μ 42 (μ 59 i) then μ 42 (μ 59 i) else top) + md_tall μ i c + μ 32 3) (md_its μ c (i + 1) k)) := rfl
    rw [hsd]
    refine aw_iload (q := 20) mX7_stands dX7_stands_18 rfl rfl ?_
    refine aw_aload_n (q := 21) mX7_stands dX7_stands_20 rfl rfl ?_
    refine aw_get (t := 0) (ji := 40) (q := 24) mX7_stands dX7_stands_21 rfl f7_169 rfl kd_32 rfl rfl ?_
    refine aw_icmp_ge (tgt := 120) (q := 27) mX7_stands dX7_stands_24 rfl (by decide) (fun c_24 => ?_) (fun c_24 => ?_)
    · exact absurd hik (by omega)
    · refine aw_aload_n (q := 28) mX7_stands dX7_stands_27 rfl rfl ?_
      refine aw_get (t := 2) (ji := 38) (q := 31) mX7_stands dX7_stands_28 rfl f7_102 rfl kd_32 rfl (ly_32_38 hl) ?_
      refine aw_iload (q := 33) mX7_stands dX7_stands_31 rfl rfl ?_
      refine aw_iald (q := 34) mX7_stands dX7_stands_33 rfl kd_59 (by omega) (by omega) rfl ?_
      refine aw_istore (q := 36) mX7_stands dX7_stands_34 rfl (by decide) rfl ?_
      refine aw_aload_n (q := 37) mX7_stands dX7_stands_36 rfl rfl ?_
      refine aw_iload (q := 39) mX7_stands dX7_stands_37 rfl rfl ?_
      refine aw_iload_n (q := 40) mX7_stands dX7_stands_39 rfl rfl ?_
      refine aw_v2 (ci := 7) (q := 43) mX7_stands dX7_stands_40 rfl l7_172 k115_114 rfl kd_32 rfl rfl rfl (pX7_tall n μ i c hl hB hR hi0 (by omega) hc0 hc1) (kpure ?_)
      refine aw_istore (q := 45) mX7_stands dX7_stands_43 rfl (by decide) rfl ?_
      refine aw_iload (q := 47) mX7_stands dX7_stands_45 rfl rfl ?_
      refine aw_if_lt (tgt := 71) (q := 50) mX7_stands dX7_stands_47 rfl (by decide) (fun c_47 => ?_) (fun c_47 => ?_)
      · refine aw_iconst (q := 72) mX7_stands dX7_stands_71 rfl rfl ?_
        refine aw_zret mX7_stands dX7_stands_72 (by first | exact Or.inl rfl | exact Or.inr rfl | assumption | omega) ?_
        exact ⟨0, rfl, rfl, rfl, Or.inr ⟨rfl, fun z => by omega⟩⟩
      · refine aw_aload_n (q := 51) mX7_stands dX7_stands_50 rfl rfl ?_
        refine aw_get (t := 2) (ji := 18) (q := 54) mX7_stands dX7_stands_51 rfl f7_50 rfl kd_32 rfl (ly_32_18 hl) ?_
        refine aw_iload (q := 56) mX7_stands dX7_stands_54 rfl rfl ?_
        refine aw_iald (q := 57) mX7_stands dX7_stands_56 rfl kd_42 (by omega) (by omega) rfl ?_
        refine aw_if_lt (tgt := 73) (q := 60) mX7_stands dX7_stands_57 rfl (by decide) (fun c_57 => ?_) (fun c_57 => ?_)
        · -- not fixed
          refine aw_aload_n (q := 74) mX7_stands dX7_stands_73 rfl rfl ?_
          refine aw_get (t := 2) (ji := 18) (q := 77) mX7_stands dX7_stands_74 rfl f7_50 rfl kd_32 rfl (ly_32_18 hl) ?_
          refine aw_iload (q := 79) mX7_stands dX7_stands_77 rfl rfl ?_
          refine aw_iald (q := 80) mX7_stands dX7_stands_79 rfl kd_42 (by omega) (by omega) rfl ?_
          refine aw_if_lt (tgt := 91) (q := 83) mX7_stands dX7_stands_80 rfl (by decide) (fun c_80 => ?_) (fun c_80 => ?_)
          · refine aw_iload_n (q := 92) mX7_stands dX7_stands_91 rfl rfl ?_
            refine aw_iload (q := 94) mX7_stands dX7_stands_92 rfl rfl ?_
            refine aw_iadd (q := 95) mX7_stands dX7_stands_94 rfl (by omega) (by omega) ?_
            refine aw_aload_n (q := 96) mX7_stands dX7_stands_95 rfl rfl ?_
            refine aw_get (t := 0) (ji := 2) (q := 99) mX7_stands dX7_stands_96 rfl f7_7 rfl kd_32 rfl rfl ?_
            refine aw_icmp_le (tgt := 104) (q := 102) mX7_stands dX7_stands_99 rfl (by decide) (fun c_99 => ?_) (fun c_99 => ?_)
            · refine aw_iload_n (q := 105) mX7_stands dX7_stands_104 rfl rfl ?_
              refine aw_iload (q := 107) mX7_stands dX7_stands_105 rfl rfl ?_
              refine aw_aload_n (q := 108) mX7_stands dX7_stands_107 rfl rfl ?_
              refine aw_get (t := 0) (ji := 3) (q := 111) mX7_stands dX7_stands_108 rfl f7_13 rfl kd_32 rfl rfl ?_
              refine aw_iadd (q := 112) mX7_stands dX7_stands_111 rfl (by omega) (by omega) ?_
              refine aw_iadd (q := 113) mX7_stands dX7_stands_112 rfl (by omega) (by omega) ?_
              refine aw_istore_n (q := 114) mX7_stands dX7_stands_113 rfl (by decide) rfl ?_
              refine aw_iinc (q := 117) mX7_stands dX7_stands_114 rfl rfl (by decide) (by omega) (by omega) rfl ?_
              refine aw_goto (q := 18) mX7_stands dX7_stands_117 (by decide) ?_
              refine (ih (i + 1) (top + (md_tall μ i c + μ 32 3)) _ _ (by omega) (by omega) (by omega) (by omega)).mono ?_
              rintro r n' μ' ⟨x, e1, e2, e3, e4⟩
              refine ⟨x, e1, e2, e3, ?_⟩
              rw [if_neg (by omega)]
              rw [show top + (md_tall μ i c + μ 32 3) = top + md_tall μ i c + μ 32 3 by omega] at e4
              rcases e4 with ⟨e4, e5⟩ | ⟨e4, e5⟩
              · exact Or.inl ⟨e4, by omega, by omega, by omega, e5⟩
              · exact Or.inr ⟨e4, fun z => e5 z.2.2.2⟩
            · refine aw_iconst (q := 103) mX7_stands dX7_stands_102 rfl rfl ?_
              refine aw_zret mX7_stands dX7_stands_103 (by first | exact Or.inl rfl | exact Or.inr rfl | assumption | omega) ?_
              exact ⟨0, rfl, rfl, rfl, Or.inr ⟨rfl, fun z => by have := z.2.2.1; rw [if_neg (by omega)] at this; omega⟩⟩
          · exact absurd c_57 (by omega)
        · refine aw_aload_n (q := 61) mX7_stands dX7_stands_60 rfl rfl ?_
          refine aw_get (t := 2) (ji := 18) (q := 64) mX7_stands dX7_stands_61 rfl f7_50 rfl kd_32 rfl (ly_32_18 hl) ?_
          refine aw_iload (q := 66) mX7_stands dX7_stands_64 rfl rfl ?_
          refine aw_iald (q := 67) mX7_stands dX7_stands_66 rfl kd_42 (by omega) (by omega) rfl ?_
          refine aw_iload_n (q := 68) mX7_stands dX7_stands_67 rfl rfl ?_
          refine aw_icmp_ge (tgt := 73) (q := 71) mX7_stands dX7_stands_68 rfl (by decide) (fun c_68 => ?_) (fun c_68 => ?_)
          · refine aw_aload_n (q := 74) mX7_stands dX7_stands_73 rfl rfl ?_
            refine aw_get (t := 2) (ji := 18) (q := 77) mX7_stands dX7_stands_74 rfl f7_50 rfl kd_32 rfl (ly_32_18 hl) ?_
            refine aw_iload (q := 79) mX7_stands dX7_stands_77 rfl rfl ?_
            refine aw_iald (q := 80) mX7_stands dX7_stands_79 rfl kd_42 (by omega) (by omega) rfl ?_
            refine aw_if_lt (tgt := 91) (q := 83) mX7_stands dX7_stands_80 rfl (by decide) (fun c_80 => ?_) (fun c_80 => ?_)
            · exact absurd c_57 (by omega)
            · refine aw_aload_n (q := 84) mX7_stands dX7_stands_83 rfl rfl ?_
              refine aw_get (t := 2) (ji := 18) (q := 87) mX7_stands dX7_stands_84 rfl f7_50 rfl kd_32 rfl (ly_32_18 hl) ?_
              refine aw_iload (q := 89) mX7_stands dX7_stands_87 rfl rfl ?_
              refine aw_iald (q := 90) mX7_stands dX7_stands_89 rfl kd_42 (by omega) (by omega) rfl ?_
              refine aw_istore_n (q := 91) mX7_stands dX7_stands_90 rfl (by decide) rfl ?_
              refine aw_iload_n (q := 92) mX7_stands dX7_stands_91 rfl rfl ?_
              refine aw_iload (q := 94) mX7_stands dX7_stands_92 rfl rfl ?_
              refine aw_iadd (q := 95) mX7_stands dX7_stands_94 rfl (by omega) (by omega) ?_
              refine aw_aload_n (q := 96) mX7_stands dX7_stands_95 rfl rfl ?_
              refine aw_get (t := 0) (ji := 2) (q := 99) mX7_stands dX7_stands_96 rfl f7_7 rfl kd_32 rfl rfl ?_
              refine aw_icmp_le (tgt := 104) (q := 102) mX7_stands dX7_stands_99 rfl (by decide) (fun c_99 => ?_) (fun c_99 => ?_)
              · refine aw_iload_n (q := 105) mX7_stands dX7_stands_104 rfl rfl ?_
                refine aw_iload (q := 107) mX7_stands dX7_stands_105 rfl rfl ?_
                refine aw_aload_n (q := 108) mX7_stands dX7_stands_107 rfl rfl ?_
                refine aw_get (t := 0) (ji := 3) (q := 111) mX7_stands dX7_stands_108 rfl f7_13 rfl kd_32 rfl rfl ?_
                refine aw_iadd (q := 112) mX7_stands dX7_stands_111 rfl (by omega) (by omega) ?_
                refine aw_iadd (q := 113) mX7_stands dX7_stands_112 rfl (by omega) (by omega) ?_
                refine aw_istore_n (q := 114) mX7_stands dX7_stands_113 rfl (by decide) rfl ?_
                refine aw_iinc (q := 117) mX7_stands dX7_stands_114 rfl rfl (by decide) (by omega) (by omega) rfl ?_
                refine aw_goto (q := 18) mX7_stands dX7_stands_117 (by decide) ?_
                refine (ih (i + 1) (μ 42 (μ 59 i) + (md_tall μ i c + μ 32 3)) _ _ (by omega) (by omega) (by omega) (by omega)).mono ?_
                rintro r n' μ' ⟨x, e1, e2, e3, e4⟩
                refine ⟨x, e1, e2, e3, ?_⟩
                rw [if_pos (by omega)]
                rw [show μ 42 (μ 59 i) + (md_tall μ i c + μ 32 3) = μ 42 (μ 59 i) + md_tall μ i c + μ 32 3 by omega] at e4
                rcases e4 with ⟨e4, e5⟩ | ⟨e4, e5⟩
                · exact Or.inl ⟨e4, by omega, by omega, by omega, e5⟩
                · exact Or.inr ⟨e4, fun z => e5 z.2.2.2⟩
              · refine aw_iconst (q := 103) mX7_stands dX7_stands_102 rfl rfl ?_
                refine aw_zret mX7_stands dX7_stands_103 (by first | exact Or.inl rfl | exact Or.inr rfl | assumption | omega) ?_
                exact ⟨0, rfl, rfl, rfl, Or.inr ⟨rfl, fun z => by have := z.2.2.1; rw [if_pos (by omega)] at this; omega⟩⟩
          · refine aw_iconst (q := 72) mX7_stands dX7_stands_71 rfl rfl ?_
            refine aw_zret mX7_stands dX7_stands_72 (by first | exact Or.inl rfl | exact Or.inr rfl | assumption | omega) ?_
            exact ⟨0, rfl, rfl, rfl, Or.inr ⟨rfl, fun z => z.2.1 ⟨by omega, by omega⟩⟩⟩
def md_top0 (μ : am_M) (rest : Int) : Int := if 0 < rest then rest + μ 32 3 else 0
theorem pX7_stands (n : Nat) (μ : am_M) (rest c : Int) (hl : Lay n μ) (hB : Bk μ) (hR : Rv μ) (hc0 : 0 ≤ c) (hc1 : c < md_choices μ) (hr0 : 0 ≤ rest) (hr1 : rest ≤ 400) : AC 115 [(2, 32), (0, rest), (0, c)] n μ (PB (rw_sd (μ 32 2) (μ 32 3) (md_top0 μ rest) (md_its μ c 0 (μ 32 40).toNat)) n μ) := by
  obtain ⟨r1, r2⟩ := id hR
  obtain ⟨b1, b2, -⟩ := id hB
  unfold md_top0
  refine AC.of rfl ?_
  refine aw_iload_n (q := 1) mX7_stands dX7_stands_0 rfl rfl ?_
  refine aw_if_le (tgt := 13) (q := 4) mX7_stands dX7_stands_1 rfl (by decide) (fun c_1 => ?_) (fun c_1 => ?_)
  · rw [if_neg (by omega)]
    refine aw_iconst (q := 14) mX7_stands dX7_stands_13 rfl rfl ?_
    refine aw_istore_n (q := 15) mX7_stands dX7_stands_14 rfl (by decide) rfl ?_
    refine aw_iconst (q := 16) mX7_stands dX7_stands_15 rfl rfl ?_
    refine aw_istore (q := 18) mX7_stands dX7_stands_16 rfl (by decide) rfl ?_
    exact pX7_stands_loop n μ rest c hl hB hR hc0 hc1 (μ 32 40).toNat 0 0 _ _ (by omega) (by omega) (by omega) (by omega)
  · rw [if_pos (by omega)]
    refine aw_iload_n (q := 5) mX7_stands dX7_stands_4 rfl rfl ?_
    refine aw_aload_n (q := 6) mX7_stands dX7_stands_5 rfl rfl ?_
    refine aw_get (t := 0) (ji := 3) (q := 9) mX7_stands dX7_stands_6 rfl f7_13 rfl kd_32 rfl rfl ?_
    refine aw_iadd (q := 10) mX7_stands dX7_stands_9 rfl (by omega) (by omega) ?_
    refine aw_goto (q := 14) mX7_stands dX7_stands_10 (by decide) ?_
    refine aw_istore_n (q := 15) mX7_stands dX7_stands_14 rfl (by decide) rfl ?_
    refine aw_iconst (q := 16) mX7_stands dX7_stands_15 rfl rfl ?_
    refine aw_istore (q := 18) mX7_stands dX7_stands_16 rfl (by decide) rfl ?_
    exact pX7_stands_loop n μ rest c hl hB hR hc0 hc1 (μ 32 40).toNat 0 (rest + μ 32 3) _ _ (by omega) (by omega) (by omega) (by omega)

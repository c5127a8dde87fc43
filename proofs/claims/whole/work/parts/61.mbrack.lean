/-! the reference: brackets -/
theorem md_nt_iff {m : am_M} {l k : Int} : ∀ {N : Nat}, k ∈ md_nt m l N ↔ (0 ≤ k ∧ k < (N : Int)) ∧ m 34 k = l ∧ md_setB m k = true := by
  intro N
  induction N with
  | zero => simp [md_nt]; intro h; omega
  | succ N ih =>
    unfold md_nt
    rw [List.mem_append, ih]
    constructor
    · rintro (h | h)
      · exact ⟨by omega, h.2⟩
      · split at h
        · rename_i hc
          simp at h hc
          rw [h]
          exact ⟨by omega, hc⟩
        · simp at h
    · rintro ⟨h1, h2, h3⟩
      by_cases hk : k = (N : Int)
      · right
        rw [if_pos (by rw [← hk, h2, h3]; simp), hk]
        simp
      · exact Or.inl ⟨by omega, h2, h3⟩
theorem md_hr_iff {m : am_M} {fr k : Int} : ∀ {M : Nat}, k ∈ md_hr m fr M ↔ (0 ≤ k ∧ k < ((m 32 8).toNat : Int)) ∧ (fr ≤ m 34 k ∧ m 34 k < fr + (M : Int)) ∧ md_setB m k = true := by
  intro M
  induction M with
  | zero => simp [md_hr]; intro _ _ _ h; omega
  | succ M ih =>
    unfold md_hr
    rw [List.mem_append, ih, md_nt_iff]
    constructor
    · rintro (h | h)
      · exact ⟨h.1, by omega, h.2.2⟩
      · exact ⟨h.1, by omega, h.2.2⟩
    · rintro ⟨h1, h2, h3⟩
      by_cases hk : m 34 k = fr + (M : Int)
      · exact Or.inr ⟨h1, hk, h3⟩
      · exact Or.inl ⟨h1, by omega, h3⟩
def Mt (μ : am_M) (q l k : Int) : Prop := (μ 34 k < l ∨ (μ 34 k = l ∧ k < q)) ∧ 0 ≤ μ 63 k ∧ μ 51 k = μ 51 q ∧ μ 65 k = μ 65 q ∧ μ 63 k < μ 64 q ∧ μ 63 q < μ 64 k
theorem pX7_isMet (n : Nat) (μ : am_M) (q l : Int) (hl : Lay n μ) (hB : Bk μ) (q0 : 0 ≤ q) (q1 : q < μ 32 8) : AC 133 [(2, 32), (0, q), (0, l)] n μ (PB (∃ k, (0 ≤ k ∧ k < μ 32 8) ∧ Mt μ q l k) n μ) := by
  have b7 := hB.2.2.2.2.2.2.1
  have F : ∀ (d : Nat) (k : Int) (v4 : am_V), 0 ≤ k → k + d = μ 32 8 → (∀ k', 0 ≤ k' → k' < k → ¬ Mt μ q l k') → AW none 133 2 [(2, 32), (0, q), (0, l), (0, k), v4] [] n μ (PB (∃ k, (0 ≤ k ∧ k < μ 32 8) ∧ Mt μ q l k) n μ) := by
    intro d
    induction d with
    | zero =>
      intro k v4 k0 kd hno
      refine aw_iload_n (q := 3) mX7_isMet dX7_isMet_2 rfl rfl ?_
      refine aw_aload_n (q := 4) mX7_isMet dX7_isMet_3 rfl rfl ?_
      refine aw_get (t := 0) (ji := 8) (q := 7) mX7_isMet dX7_isMet_4 rfl f7_136 rfl kd_32 rfl rfl ?_
      refine aw_icmp_ge (tgt := 124) (q := 10) mX7_isMet dX7_isMet_7 rfl (by decide) (fun c_7 => ?_) (fun c_7 => ?_)
      · refine aw_iconst (q := 125) mX7_isMet dX7_isMet_124 rfl rfl ?_
        refine aw_zret mX7_isMet dX7_isMet_125 (by first | exact Or.inl rfl | exact Or.inr rfl | assumption | omega) ?_
        exact ⟨0, rfl, rfl, rfl, Or.inr ⟨rfl, fun ⟨k', z1, z2⟩ => hno k' z1.1 (by omega) z2⟩⟩
      · exact absurd c_7 (by omega)
    | succ d ih =>
      intro k v4 k0 kd hno
      have N : ∀ w4, ¬ Mt μ q l k → AW none 133 118 [(2, 32), (0, q), (0, l), (0, k), w4] [] n μ (PB (∃ k, (0 ≤ k ∧ k < μ 32 8) ∧ Mt μ q l k) n μ) := by
        intro w4 hn
        refine aw_iinc (q := 121) mX7_isMet dX7_isMet_118 rfl rfl (by decide) (by omega) (by omega) rfl ?_
        refine aw_goto (q := 2) mX7_isMet dX7_isMet_121 (by decide) ?_
        refine ih (k + 1) w4 (by omega) (by omega) (fun k' z0 z1 => ?_)
        by_cases hk : k' = k
        · rw [hk]; exact hn
        · exact hno k' z0 (by omega)
      have A : (μ 34 k < l ∨ (μ 34 k = l ∧ k < q)) → AW none 133 35 [(2, 32), (0, q), (0, l), (0, k), v4] [] n μ (PB (∃ k, (0 ≤ k ∧ k < μ 32 8) ∧ Mt μ q l k) n μ) := by
        intro ha
        refine aw_iconst (q := 36) mX7_isMet dX7_isMet_35 rfl rfl ?_
        refine aw_goto (q := 40) mX7_isMet dX7_isMet_36 (by decide) ?_
        refine aw_istore (q := 42) mX7_isMet dX7_isMet_40 rfl (by decide) rfl ?_
        refine aw_iload (q := 44) mX7_isMet dX7_isMet_42 rfl rfl ?_
        refine aw_if_eq (tgt := 118) (q := 47) mX7_isMet dX7_isMet_44 rfl (by decide) (fun c_44 => ?_) (fun c_44 => ?_)
        · exact absurd c_44 (by decide)
        · refine aw_aload_n (q := 48) mX7_isMet dX7_isMet_47 rfl rfl ?_
          refine aw_get (t := 2) (ji := 44) (q := 51) mX7_isMet dX7_isMet_48 rfl f7_114 rfl kd_32 rfl (ly_32_44 hl) ?_
          refine aw_iload_n (q := 52) mX7_isMet dX7_isMet_51 rfl rfl ?_
          refine aw_iald (q := 53) mX7_isMet dX7_isMet_52 rfl kd_63 (by omega) (by omega) rfl ?_
          refine aw_if_lt (tgt := 118) (q := 56) mX7_isMet dX7_isMet_53 rfl (by decide) (fun c_53 => ?_) (fun c_53 => ?_)
          · exact N _ (fun z => by have := z.2.1; omega)
          · refine aw_aload_n (q := 57) mX7_isMet dX7_isMet_56 rfl rfl ?_
            refine aw_get (t := 2) (ji := 30) (q := 60) mX7_isMet dX7_isMet_57 rfl f7_78 rfl kd_32 rfl (ly_32_30 hl) ?_
            refine aw_iload_n (q := 61) mX7_isMet dX7_isMet_60 rfl rfl ?_
            refine aw_iald (q := 62) mX7_isMet dX7_isMet_61 rfl kd_51 (by omega) (by omega) rfl ?_
            refine aw_aload_n (q := 63) mX7_isMet dX7_isMet_62 rfl rfl ?_
            refine aw_get (t := 2) (ji := 30) (q := 66) mX7_isMet dX7_isMet_63 rfl f7_78 rfl kd_32 rfl (ly_32_30 hl) ?_
            refine aw_iload_n (q := 67) mX7_isMet dX7_isMet_66 rfl rfl ?_
            refine aw_iald (q := 68) mX7_isMet dX7_isMet_67 rfl kd_51 (by omega) (by omega) rfl ?_
            refine aw_icmp_ne (tgt := 118) (q := 71) mX7_isMet dX7_isMet_68 rfl (by decide) (fun c_68 => ?_) (fun c_68 => ?_)
            · exact N _ (fun z => c_68 z.2.2.1)
            · refine aw_aload_n (q := 72) mX7_isMet dX7_isMet_71 rfl rfl ?_
              refine aw_get (t := 2) (ji := 46) (q := 75) mX7_isMet dX7_isMet_72 rfl f7_120 rfl kd_32 rfl (ly_32_46 hl) ?_
              refine aw_iload_n (q := 76) mX7_isMet dX7_isMet_75 rfl rfl ?_
              refine aw_iald (q := 77) mX7_isMet dX7_isMet_76 rfl kd_65 (by omega) (by omega) rfl ?_
              refine aw_aload_n (q := 78) mX7_isMet dX7_isMet_77 rfl rfl ?_
              refine aw_get (t := 2) (ji := 46) (q := 81) mX7_isMet dX7_isMet_78 rfl f7_120 rfl kd_32 rfl (ly_32_46 hl) ?_
              refine aw_iload_n (q := 82) mX7_isMet dX7_isMet_81 rfl rfl ?_
              refine aw_iald (q := 83) mX7_isMet dX7_isMet_82 rfl kd_65 (by omega) (by omega) rfl ?_
              refine aw_icmp_ne (tgt := 118) (q := 86) mX7_isMet dX7_isMet_83 rfl (by decide) (fun c_83 => ?_) (fun c_83 => ?_)
              · exact N _ (fun z => c_83 z.2.2.2.1)
              · refine aw_aload_n (q := 87) mX7_isMet dX7_isMet_86 rfl rfl ?_
                refine aw_get (t := 2) (ji := 44) (q := 90) mX7_isMet dX7_isMet_87 rfl f7_114 rfl kd_32 rfl (ly_32_44 hl) ?_
                refine aw_iload_n (q := 91) mX7_isMet dX7_isMet_90 rfl rfl ?_
                refine aw_iald (q := 92) mX7_isMet dX7_isMet_91 rfl kd_63 (by omega) (by omega) rfl ?_
                refine aw_aload_n (q := 93) mX7_isMet dX7_isMet_92 rfl rfl ?_
                refine aw_get (t := 2) (ji := 45) (q := 96) mX7_isMet dX7_isMet_93 rfl f7_117 rfl kd_32 rfl (ly_32_45 hl) ?_
                refine aw_iload_n (q := 97) mX7_isMet dX7_isMet_96 rfl rfl ?_
                refine aw_iald (q := 98) mX7_isMet dX7_isMet_97 rfl kd_64 (by omega) (by omega) rfl ?_
                refine aw_icmp_ge (tgt := 118) (q := 101) mX7_isMet dX7_isMet_98 rfl (by decide) (fun c_98 => ?_) (fun c_98 => ?_)
                · exact N _ (fun z => by have := z.2.2.2.2.1; omega)
                · refine aw_aload_n (q := 102) mX7_isMet dX7_isMet_101 rfl rfl ?_
                  refine aw_get (t := 2) (ji := 44) (q := 105) mX7_isMet dX7_isMet_102 rfl f7_114 rfl kd_32 rfl (ly_32_44 hl) ?_
                  refine aw_iload_n (q := 106) mX7_isMet dX7_isMet_105 rfl rfl ?_
                  refine aw_iald (q := 107) mX7_isMet dX7_isMet_106 rfl kd_63 (by omega) (by omega) rfl ?_
                  refine aw_aload_n (q := 108) mX7_isMet dX7_isMet_107 rfl rfl ?_
                  refine aw_get (t := 2) (ji := 45) (q := 111) mX7_isMet dX7_isMet_108 rfl f7_117 rfl kd_32 rfl (ly_32_45 hl) ?_
                  refine aw_iload_n (q := 112) mX7_isMet dX7_isMet_111 rfl rfl ?_
                  refine aw_iald (q := 113) mX7_isMet dX7_isMet_112 rfl kd_64 (by omega) (by omega) rfl ?_
                  refine aw_icmp_ge (tgt := 118) (q := 116) mX7_isMet dX7_isMet_113 rfl (by decide) (fun c_113 => ?_) (fun c_113 => ?_)
                  · exact N _ (fun z => by have := z.2.2.2.2.2; omega)
                  · refine aw_iconst (q := 117) mX7_isMet dX7_isMet_116 rfl rfl ?_
                    refine aw_zret mX7_isMet dX7_isMet_117 (by first | exact Or.inl rfl | exact Or.inr rfl | assumption | omega) ?_
                    exact ⟨1, rfl, rfl, rfl, Or.inl ⟨rfl, k, ⟨k0, by omega⟩, ha, by omega, Decidable.not_not.mp c_68, Decidable.not_not.mp c_83, by omega, by omega⟩⟩
      have A0 : ¬ (μ 34 k < l ∨ (μ 34 k = l ∧ k < q)) → AW none 133 39 [(2, 32), (0, q), (0, l), (0, k), v4] [] n μ (PB (∃ k, (0 ≤ k ∧ k < μ 32 8) ∧ Mt μ q l k) n μ) := by
        intro ha
        refine aw_iconst (q := 40) mX7_isMet dX7_isMet_39 rfl rfl ?_
        refine aw_istore (q := 42) mX7_isMet dX7_isMet_40 rfl (by decide) rfl ?_
        refine aw_iload (q := 44) mX7_isMet dX7_isMet_42 rfl rfl ?_
        refine aw_if_eq (tgt := 118) (q := 47) mX7_isMet dX7_isMet_44 rfl (by decide) (fun c_44 => ?_) (fun c_44 => ?_)
        · exact N _ (fun z => ha z.1)
        · exact absurd rfl c_44
      refine aw_iload_n (q := 3) mX7_isMet dX7_isMet_2 rfl rfl ?_
      refine aw_aload_n (q := 4) mX7_isMet dX7_isMet_3 rfl rfl ?_
      refine aw_get (t := 0) (ji := 8) (q := 7) mX7_isMet dX7_isMet_4 rfl f7_136 rfl kd_32 rfl rfl ?_
      refine aw_icmp_ge (tgt := 124) (q := 10) mX7_isMet dX7_isMet_7 rfl (by decide) (fun c_7 => ?_) (fun c_7 => ?_)
      · exact absurd c_7 (by omega)
      · refine aw_aload_n (q := 11) mX7_isMet dX7_isMet_10 rfl rfl ?_
        refine aw_get (t := 2) (ji := 10) (q := 14) mX7_isMet dX7_isMet_11 rfl f7_26 rfl kd_32 rfl (ly_32_10 hl) ?_
        refine aw_iload_n (q := 15) mX7_isMet dX7_isMet_14 rfl rfl ?_
        refine aw_iald (q := 16) mX7_isMet dX7_isMet_15 rfl kd_34 (by omega) (by omega) rfl ?_
        refine aw_iload_n (q := 17) mX7_isMet dX7_isMet_16 rfl rfl ?_
        refine aw_icmp_lt (tgt := 35) (q := 20) mX7_isMet dX7_isMet_17 rfl (by decide) (fun c_17 => ?_) (fun c_17 => ?_)
        · exact A (Or.inl c_17)
        · refine aw_aload_n (q := 21) mX7_isMet dX7_isMet_20 rfl rfl ?_
          refine aw_get (t := 2) (ji := 10) (q := 24) mX7_isMet dX7_isMet_21 rfl f7_26 rfl kd_32 rfl (ly_32_10 hl) ?_
          refine aw_iload_n (q := 25) mX7_isMet dX7_isMet_24 rfl rfl ?_
          refine aw_iald (q := 26) mX7_isMet dX7_isMet_25 rfl kd_34 (by omega) (by omega) rfl ?_
          refine aw_iload_n (q := 27) mX7_isMet dX7_isMet_26 rfl rfl ?_
          refine aw_icmp_ne (tgt := 39) (q := 30) mX7_isMet dX7_isMet_27 rfl (by decide) (fun c_27 => ?_) (fun c_27 => ?_)
          · exact A0 (by omega)
          · refine aw_iload_n (q := 31) mX7_isMet dX7_isMet_30 rfl rfl ?_
            refine aw_iload_n (q := 32) mX7_isMet dX7_isMet_31 rfl rfl ?_
            refine aw_icmp_ge (tgt := 39) (q := 35) mX7_isMet dX7_isMet_32 rfl (by decide) (fun c_32 => ?_) (fun c_32 => ?_)
            · exact A0 (by omega)
            · exact A (Or.inr ⟨by omega, by omega⟩)
  refine AC.of rfl ?_
  refine aw_iconst (q := 1) mX7_isMet dX7_isMet_0 rfl rfl ?_
  refine aw_istore_n (q := 2) mX7_isMet dX7_isMet_1 rfl (by decide) rfl ?_
  exact F (μ 32 8).toNat 0 _ (by decide) (by omega) (fun k' z0 z1 => by omega)
def S6 (a _j : Int) : Prop := a = 63 ∨ a = 64 ∨ a = 65
theorem S6_Sw : ∀ a j, S6 a j → Sw a j := fun a j h => by unfold S6 at h; unfold Sw; omega
/-- bounds are lines, or none -/
def Bd (μ : am_M) : Prop := ∀ k, 0 ≤ k → k < μ 32 8 → -1 ≤ μ 43 k ∧ μ 43 k < μ 32 7
/-- the lines of a page -/
theorem PgR_ls {μ : am_M} {p : Int} (hB : Bk μ) (hR : PgR μ p) {l : Int} (h0 : μ 45 p ≤ l) (h1 : l < μ 45 p + μ 46 p) : μ 49 l = md_ls μ (μ 45 p) (l - μ 45 p).toNat ∧ 0 ≤ μ 49 l ∧ μ 49 l + μ 33 l = md_ls μ (μ 45 p) (l - μ 45 p + 1).toNat ∧ μ 49 l + μ 33 l ≤ 400 ∧ 1 ≤ μ 33 l := by
  obtain ⟨-, h2, -, h4, h5, -⟩ := hR
  have e := (h5 l h0 h1).1
  have b8 := hB.2.2.2.2.2.2.2.1 l (by omega) (by omega)
  have hm := md_ls_mono hB (fr := μ 45 p) h2.1 (μ 46 p).toNat (l - μ 45 p + 1).toNat (by omega) (by omega)
  have hh := (h4.1 (μ 46 p) (by omega) (Int.le_refl _)).1
  have b1 := hB.1
  have e2 : md_ls μ (μ 45 p) (l - μ 45 p + 1).toNat = md_ls μ (μ 45 p) (l - μ 45 p).toNat + μ 33 l := by
    rw [show (l - μ 45 p + 1).toNat = (l - μ 45 p).toNat + 1 by omega]
    show _ + μ 33 (μ 45 p + (((l - μ 45 p).toNat : Nat) : Int)) = _
    rw [show μ 45 p + (((l - μ 45 p).toNat : Nat) : Int) = l by omega]
  have hm2 := md_ls_mono hB (fr := μ 45 p) h2.1 (l - μ 45 p).toNat (l - μ 45 p).toNat (Nat.le_refl _) (by omega)
  omega
theorem PgR_lt {μ : am_M} {p : Int} (hB : Bk μ) (hR : PgR μ p) {f l : Int} (f0 : μ 45 p ≤ f) (f1 : f < μ 45 p + μ 46 p) (h0 : μ 45 p ≤ l) (h1 : l < μ 45 p + μ 46 p) : μ 49 f < μ 49 l + μ 33 l ↔ f ≤ l := by
  obtain ⟨a1, a2, a3, a4, a5⟩ := PgR_ls hB hR f0 f1
  obtain ⟨b1, b2, b3, b4, b5⟩ := PgR_ls hB hR h0 h1
  have h2 := hR.2.1
  constructor
  · intro h
    rcases Int.lt_or_le l f with c | c
    · have := md_ls_mono hB (fr := μ 45 p) h2.1 (f - μ 45 p).toNat (l - μ 45 p + 1).toNat (by omega) (by omega)
      omega
    · exact c
  · intro h
    have := md_ls_mono hB (fr := μ 45 p) h2.1 (l - μ 45 p).toNat (f - μ 45 p).toNat (by omega) (by omega)
    omega
theorem bH_in {μ : am_M} {p k : Int} (h2 : 0 ≤ μ 45 p) (hb : bH μ μ p k) : μ 45 p ≤ bF μ p k ∧ bF μ p k < μ 45 p + μ 46 p ∧ μ 45 p ≤ bL μ μ p k ∧ bL μ μ p k < μ 45 p + μ 46 p := by
  have := hb.2
  unfold bF bL at *
  omega
/-- what brackets leaves of a note -/
def Br (μ μ1 : am_M) (p k : Int) : Prop := μ1 63 k = μ 49 (bF μ p k) ∧ μ1 64 k = μ 49 (bL μ μ p k) + μ 33 (bL μ μ p k) ∧ IsC μ μ p (fun z => μ1 65 z) k
def Bw (μ μ1 : am_M) (p l q : Int) : Prop := ∀ k, 0 ≤ k → k < μ 32 8 → ((μ 34 k < l ∨ (μ 34 k = l ∧ k < q)) ∧ md_setB μ k = true ∧ bH μ μ p k → Br μ μ1 p k) ∧ (¬ ((μ 34 k < l ∨ (μ 34 k = l ∧ k < q)) ∧ md_setB μ k = true ∧ bH μ μ p k) → μ1 63 k = -1)
theorem Bw.nx {μ μ1 : am_M} {p l q : Int} (h : Bw μ μ1 p l q) (hn : ¬ (μ 34 q = l ∧ md_setB μ q = true ∧ bH μ μ p q)) : Bw μ μ1 p l (q + 1) := by
  intro k k0 k1
  obtain ⟨h1, h2⟩ := h k k0 k1
  by_cases hk : k = q
  · subst hk
    constructor
    · rintro ⟨z1, z2, z3⟩
      by_cases hlt : μ 34 k < l
      · exact h1 ⟨Or.inl hlt, z2, z3⟩
      · exact absurd ⟨by omega, z2, z3⟩ hn
    · intro z
      exact h2 (fun y => z ⟨by omega, y.2⟩)
  · constructor
    · rintro ⟨z1, z2⟩; exact h1 ⟨by omega, z2⟩
    · intro z; exact h2 (fun y => z ⟨by omega, y.2⟩)
theorem pX7_brackets (n : Nat) (μ : am_M) (p : Int) (hl0 : Lay n μ) (hB : Bk μ) (hD : Bd μ) (hM : MS μ) (h22 : μ 32 22 = 1) (p0 : 0 ≤ p) (p1 : p < μ 32 23) : AC 132 [(2, 32), (0, p)] n μ (PV n (fun μ' => Of S6 μ μ' ∧ Bw μ μ' p (μ 32 7) 0)) := by
  obtain ⟨b1, b2, b3, b4, b5, b6, b7, b8, b9⟩ := id hB
  have hQ := hM.pages hB
  have hR := hM.1.2.2.1 p p0 p1
  have h2 := hR.2.1
  have hOl : (md_hr μ 0 (μ 32 7).toNat).length ≤ 24 := Nat.le_trans md_hr_le (by omega)
  have hmem : ∀ k, 0 ≤ k → k < μ 32 8 → (k ∈ md_hr μ 0 (μ 32 7).toNat ↔ md_setB μ k = true) := fun k k0 k1 => by
    rw [md_hr_iff]
    have := (b9 k k0 k1).1
    constructor
    · intro z; exact z.2.2
    · intro z; exact ⟨by omega, by omega, z⟩
  obtain ⟨PP, hPP⟩ : ∃ P : Option am_V → Nat → am_M → Prop, P = PV n (fun μ' => Of S6 μ μ' ∧ Bw μ μ' p (μ 32 7) 0) := ⟨_, rfl⟩
  rw [← hPP]
  -- a column is sought
  have C : ∀ (l q : Int) (w6 w7 : Int), 0 ≤ q → q < μ 32 8 → μ 34 q = l → md_setB μ q = true → bH μ μ p q → (∀ μ3, Of S6 μ μ3 → Bw μ μ3 p l (q + 1) → AW none 132 216 [(2, 32), (0, p), (0, μ 45 p), (0, μ 45 p + μ 46 p - 1), (0, l), (0, q), (0, w6), (0, w7)] [] n μ3 PP) → ∀ (d : Nat) (c : Int) (μ1 : am_M), 0 ≤ c → c + d = 25 → Of S6 μ μ1 → (∀ k, 0 ≤ k → k < μ 32 8 → k ≠ q → ((μ 34 k < l ∨ (μ 34 k = l ∧ k < q)) ∧ md_setB μ k = true ∧ bH μ μ p k → Br μ μ1 p k) ∧ (¬ ((μ 34 k < l ∨ (μ 34 k = l ∧ k < q)) ∧ md_setB μ k = true ∧ bH μ μ p k) → μ1 63 k = -1)) → μ1 63 q = μ 49 (bF μ p q) → μ1 64 q = μ 49 (bL μ μ p q) + μ 33 (bL μ μ p q) → μ1 65 q = c → (∀ c', 0 ≤ c' → c' < c → ∃ k, bM μ μ p q k ∧ μ1 65 k = c') → AW none 132 191 [(2, 32), (0, p), (0, μ 45 p), (0, μ 45 p + μ 46 p - 1), (0, l), (0, q), (0, w6), (0, w7)] [] n μ1 PP := by
    intro l q w6 w7 q0 q1 hql hqs hqb kk d
    have hqin := bH_in h2.1 hqb
    -- met, in words of brackets
    have met : ∀ μ1 : am_M, Of S6 μ μ1 → (∀ k, 0 ≤ k → k < μ 32 8 → k ≠ q → ((μ 34 k < l ∨ (μ 34 k = l ∧ k < q)) ∧ md_setB μ k = true ∧ bH μ μ p k → Br μ μ1 p k) ∧ (¬ ((μ 34 k < l ∨ (μ 34 k = l ∧ k < q)) ∧ md_setB μ k = true ∧ bH μ μ p k) → μ1 63 k = -1)) → μ1 63 q = μ 49 (bF μ p q) → μ1 64 q = μ 49 (bL μ μ p q) + μ 33 (bL μ μ p q) → ((∃ k, (0 ≤ k ∧ k < μ1 32 8) ∧ Mt μ1 q l k) ↔ ∃ k, bM μ μ p q k ∧ μ1 65 k = μ1 65 q) := by
      intro μ1 hO hW h63 h64
      have e8 : μ1 32 8 = μ 32 8 := hO 32 8 (by unfold S6; omega)
      have e34 : ∀ k, μ1 34 k = μ 34 k := fun k => hO 34 k (by unfold S6; omega)
      have e51 : ∀ k, μ1 51 k = μ 51 k := fun k => hO 51 k (by unfold S6; omega)
      constructor
      · rintro ⟨k, ⟨k0, k1⟩, m1, m2, m3, m4, m5, m6⟩
        rw [e8] at k1
        rw [e34] at m1
        rw [e51, e51] at m3
        have hkq : k ≠ q := fun z => by rw [z] at m1; omega
        obtain ⟨w1, w2⟩ := hW k k0 k1 hkq
        by_cases hc : (μ 34 k < l ∨ (μ 34 k = l ∧ k < q)) ∧ md_setB μ k = true ∧ bH μ μ p k
        · obtain ⟨r1, r2, r3⟩ := w1 hc
          have hkin := bH_in h2.1 hc.2.2
          refine ⟨k, ⟨(hmem k k0 k1).mpr hc.2.1, ?_, hc.2.2, m3, ?_⟩, m4⟩
          · unfold ah; omega
          · rw [h63, r2] at m6
            exact (PgR_lt hB hR hqin.1 hqin.2.1 hkin.2.2.1 hkin.2.2.2).mp m6
        · have := w2 hc; omega
      · rintro ⟨k, ⟨z1, z2, z3, z4, z5⟩, z6⟩
        have hkr := (md_hr_mem z1)
        have k1 : k < μ 32 8 := by omega
        have hks := (hmem k hkr.1 k1).mp z1
        have hkq : k ≠ q := fun z => by rw [z] at z2; exact ah_irr z2 z2
        have hah : μ 34 k < l ∨ (μ 34 k = l ∧ k < q) := by unfold ah at z2; omega
        obtain ⟨r1, r2, r3⟩ := (hW k hkr.1 k1 hkq).1 ⟨hah, hks, z3⟩
        have hkin := bH_in h2.1 z3
        refine ⟨k, ⟨hkr.1, by rw [e8]; exact k1⟩, by rw [e34]; exact hah, ?_, by rw [e51, e51]; exact z4, z6, ?_, ?_⟩
        · rw [r1]; exact (PgR_ls hB hR hkin.1 hkin.2.1).2.1
        · rw [r1, h64]
          refine (PgR_lt hB hR hkin.1 hkin.2.1 hqin.2.2.1 hqin.2.2.2).mpr ?_
          have := hqb.2
          have hl34 : μ 34 k ≤ μ 34 q := by omega
          unfold bF at *
          omega
        · rw [h63, r2]
          exact (PgR_lt hB hR hqin.1 hqin.2.1 hkin.2.2.1 hkin.2.2.2).mpr z5
    induction d with
    | zero =>
      intro c μ1 c0 cd hO hW h63 h64 h65 hc
      exfalso
      have := pigeon c.toNat ((md_hr μ 0 (μ 32 7).toNat).map (fun z => μ1 65 z)) (fun c' hc' => by
        obtain ⟨k, z1, z2⟩ := hc (c' : Int) (by omega) (by omega)
        exact List.mem_map.mpr ⟨k, z1.1, z2⟩)
      rw [List.length_map] at this
      omega
    | succ d ih =>
      intro c μ1 c0 cd hO hW h63 h64 h65 hc
      have hl : Lay n μ1 := hl0.ofW (hO.mono S6_Sw)
      have hBE := (hO.mono S6_Sw).beW
      have e8 : μ1 32 8 = μ 32 8 := hBE.1 8 (by decide) (by decide)
      have hmt := met μ1 hO hW h63 h64
      refine aw_aload_n (q := 192) mX7_brackets dX7_brackets_191 rfl rfl ?_
      refine aw_iload (q := 194) mX7_brackets dX7_brackets_192 rfl rfl ?_
      refine aw_iload (q := 196) mX7_brackets dX7_brackets_194 rfl rfl ?_
      refine aw_v2 (ci := 7) (q := 199) mX7_brackets dX7_brackets_196 rfl l7_250 k132_133 rfl kd_32 rfl rfl rfl (pX7_isMet n μ1 q l hl (hB.tr hBE) q0 (by rw [e8]; exact q1)) (kint (fun y μ2 hy => ?_))
      obtain ⟨hm2, hy⟩ := hy
      subst hm2
      rw [hmt, h65] at hy
      refine aw_if_eq (tgt := 216) (q := 202) mX7_brackets dX7_brackets_199 rfl (by decide) (fun c_199 => ?_) (fun c_199 => ?_)
      · -- free
        have hfree : ∀ k, bM μ μ p q k → μ2 65 k ≠ c := fun k hk hkc => by
          rcases hy with ⟨y1, -⟩ | ⟨-, y2⟩
          · omega
          · exact y2 ⟨k, hk, hkc⟩
        refine kk μ2 hO (fun k k0 k1 => ?_)
        by_cases hk : k = q
        · subst hk
          refine ⟨fun _ => ⟨h63, h64, by show 0 ≤ μ2 65 k; rw [h65]; exact c0, fun z hz => by show μ2 65 z ≠ μ2 65 k; rw [h65]; exact hfree z hz, fun c' z0 z1 => hc c' z0 (by have z1 : c' < μ2 65 k := z1; omega)⟩, fun z => absurd ⟨Or.inr ⟨hql, by omega⟩, hqs, hqb⟩ z⟩
        · obtain ⟨w1, w2⟩ := hW k k0 k1 hk
          exact ⟨fun z => w1 ⟨by omega, z.2⟩, fun z => w2 (fun y => z ⟨by omega, y.2⟩)⟩
      · -- taken
        have htak : ∃ k, bM μ μ p q k ∧ μ2 65 k = c := by
          rcases hy with ⟨-, y2⟩ | ⟨y1, -⟩
          · exact y2
          · exact absurd y1 c_199
        refine aw_aload_n (q := 203) mX7_brackets dX7_brackets_202 rfl rfl ?_
        refine aw_get (t := 2) (ji := 46) (q := 206) mX7_brackets dX7_brackets_203 rfl f7_120 rfl kd_32 rfl (ly_32_46 hl) ?_
        refine aw_iload (q := 208) mX7_brackets dX7_brackets_206 rfl rfl ?_
        refine aw_dup2 (q := 209) mX7_brackets dX7_brackets_208 rfl ?_
        refine aw_iald (q := 210) mX7_brackets dX7_brackets_209 rfl kd_65 (by omega) (by omega) h65 ?_
        refine aw_iconst (q := 211) mX7_brackets dX7_brackets_210 rfl rfl ?_
        refine aw_iadd (q := 212) mX7_brackets dX7_brackets_211 rfl (by omega) (by omega) ?_
        refine aw_iast (q := 213) mX7_brackets dX7_brackets_212 rfl kd_65 (by omega) (by omega) (fun μ_212 e_212 => ?_)
        have hl : Lay n μ_212 := by rw [e_212]; exact Lay.setA la_65 hl
        refine aw_goto (q := 191) mX7_brackets dX7_brackets_213 (by decide) ?_
        have hne : ∀ k, bM μ μ p q k → k ≠ q := fun k hk z => by rw [z] at hk; exact ah_irr hk.2.1 hk.2.1
        have keep : ∀ k, k ≠ q → μ_212 65 k = μ2 65 k := fun k hk => by rw [e_212, am_sn (Or.inr hk)]
        refine ih (c + 1) μ_212 (by omega) (by omega) (by rw [e_212]; exact hO.set (by unfold S6; omega)) (fun k k0 k1 hk => ?_) (by rw [e_212, am_sn (Or.inl (by decide))]; exact h63) (by rw [e_212, am_sn (Or.inl (by decide))]; exact h64) (by rw [e_212, am_ss]) (fun c' z0 z1 => ?_)
        · obtain ⟨w1, w2⟩ := hW k k0 k1 hk
          refine ⟨fun z => ?_, fun z => by rw [e_212, am_sn (Or.inl (by decide))]; exact w2 z⟩
          obtain ⟨r1, r2, r3⟩ := w1 z
          refine ⟨by rw [e_212, am_sn (Or.inl (by decide))]; exact r1, by rw [e_212, am_sn (Or.inl (by decide))]; exact r2, r3.cg (keep k hk) (fun w hw => keep w (fun y => ?_))⟩
          rw [y] at hw
          have := hw.2.1
          unfold ah at this
          omega
        · by_cases hce : c' = c
          · obtain ⟨k, y1, y2⟩ := htak
            exact ⟨k, y1, by rw [keep k (hne k y1), hce]; exact y2⟩
          · obtain ⟨k, y1, y2⟩ := hc c' z0 (by omega)
            exact ⟨k, y1, by rw [keep k (hne k y1)]; exact y2⟩
  -- the notes of a line
  have L : ∀ (l : Int), 0 ≤ l → l < μ 32 7 → (∀ (μ3 : am_M) (q6 q7 : am_V), Of S6 μ μ3 → Bw μ μ3 p (l + 1) 0 → AW none 132 222 [(2, 32), (0, p), (0, μ 45 p), (0, μ 45 p + μ 46 p - 1), (0, l), (0, μ 32 8), q6, q7] [] n μ3 PP) → ∀ (d : Nat) (q : Int) (μ1 : am_M) (v6 v7 : am_V), 0 ≤ q → q + d = μ 32 8 → Of S6 μ μ1 → Bw μ μ1 p l q → AW none 132 61 [(2, 32), (0, p), (0, μ 45 p), (0, μ 45 p + μ 46 p - 1), (0, l), (0, q), v6, v7] [] n μ1 PP := by
    intro l l0 l1 kk d
    induction d with
    | zero =>
      intro q μ1 v6 v7 q0 qd hO hW
      have hl : Lay n μ1 := hl0.ofW (hO.mono S6_Sw)
      have e8 : μ1 32 8 = μ 32 8 := hO 32 8 (by unfold S6; omega)
      have hqe : q = μ 32 8 := by omega
      refine aw_iload (q := 63) mX7_brackets dX7_brackets_61 rfl rfl ?_
      refine aw_aload_n (q := 64) mX7_brackets dX7_brackets_63 rfl rfl ?_
      refine aw_get (t := 0) (ji := 8) (q := 67) mX7_brackets dX7_brackets_64 rfl f7_136 rfl kd_32 rfl e8 ?_
      refine aw_icmp_ge (tgt := 222) (q := 70) mX7_brackets dX7_brackets_67 rfl (by decide) (fun c_67 => ?_) (fun c_67 => ?_)
      · rw [hqe]
        refine kk μ1 _ _ hO (fun k k0 k1 => ?_)
        obtain ⟨w1, w2⟩ := hW k k0 k1
        exact ⟨fun z => w1 ⟨by omega, z.2⟩, fun z => w2 (fun y => z ⟨by omega, y.2⟩)⟩
      · exact absurd c_67 (by omega)
    | succ d ih =>
      intro q μ1 v6 v7 q0 qd hO hW
      have hl : Lay n μ1 := hl0.ofW (hO.mono S6_Sw)
      have hBE := (hO.mono S6_Sw).beW
      have e8 : μ1 32 8 = μ 32 8 := hO 32 8 (by unfold S6; omega)
      have e34 : μ1 34 q = μ 34 q := hO 34 q (by unfold S6; omega)
      have e43 : μ1 43 q = μ 43 q := hO 43 q (by unfold S6; omega)
      have e6 : μ1 32 6 = μ 32 6 := hO 32 6 (by unfold S6; omega)
      have e5 : μ1 32 5 = μ 32 5 := hO 32 5 (by unfold S6; omega)
      have e38 : μ1 38 q = μ 38 q := hO 38 q (by unfold S6; omega)
      have hDq := hD q q0 (by omega)
      have n34 := (b9 q q0 (by omega)).1
      have hsh := pX7_isShown n μ1 q hl q0 (by omega)
      have N : ∀ (μ2 : am_M) (w6 w7 : am_V), Of S6 μ μ2 → Bw μ μ2 p l (q + 1) → AW none 132 216 [(2, 32), (0, p), (0, μ 45 p), (0, μ 45 p + μ 46 p - 1), (0, l), (0, q), w6, w7] [] n μ2 PP := by
        intro μ2 w6 w7 hO2 hW2
        refine aw_iinc (q := 219) mX7_brackets dX7_brackets_216 rfl rfl (by decide) (by omega) (by omega) rfl ?_
        refine aw_goto (q := 61) mX7_brackets dX7_brackets_219 (by decide) ?_
        exact ih (q + 1) μ2 w6 w7 (by omega) (by omega) hO2 hW2
      -- it is SET
      have Y : μ 34 q = l → 0 ≤ μ 43 q → md_setB μ q = true → AW none 132 111 [(2, 32), (0, p), (0, μ 45 p), (0, μ 45 p + μ 46 p - 1), (0, l), (0, q), v6, v7] [] n μ1 PP := by
        intro hql hq43 hqs
        have ebF : max (μ 45 p) (μ 34 q) = bF μ p q := by unfold bF; omega
        have ebL : min (μ 45 p + μ 46 p - 1) (μ 43 q) = bL μ μ p q := by unfold bL; omega
        refine aw_iload_n (q := 112) mX7_brackets dX7_brackets_111 rfl rfl ?_
        refine aw_aload_n (q := 113) mX7_brackets dX7_brackets_112 rfl rfl ?_
        refine aw_get (t := 2) (ji := 10) (q := 116) mX7_brackets dX7_brackets_113 rfl f7_26 rfl kd_32 rfl (ly_32_10 hl) ?_
        refine aw_iload (q := 118) mX7_brackets dX7_brackets_116 rfl rfl ?_
        refine aw_iald (q := 119) mX7_brackets dX7_brackets_118 rfl kd_34 (by omega) (by omega) e34 ?_
        refine aw_m2 (Or.inl ⟨rfl, rfl, rfl⟩) (q := 122) mX7_brackets dX7_brackets_119 rfl mt7_245 (Nat.le_of_ble_eq_true rfl) (by decide) (by decide) ?_
        refine aw_istore (q := 124) mX7_brackets dX7_brackets_122 rfl (by decide) rfl ?_
        refine aw_iload_n (q := 125) mX7_brackets dX7_brackets_124 rfl rfl ?_
        refine aw_aload_n (q := 126) mX7_brackets dX7_brackets_125 rfl rfl ?_
        refine aw_get (t := 2) (ji := 19) (q := 129) mX7_brackets dX7_brackets_126 rfl f7_53 rfl kd_32 rfl (ly_32_19 hl) ?_
        refine aw_iload (q := 131) mX7_brackets dX7_brackets_129 rfl rfl ?_
        refine aw_iald (q := 132) mX7_brackets dX7_brackets_131 rfl kd_43 (by omega) (by omega) e43 ?_
        refine aw_m2 (Or.inr (Or.inl ⟨rfl, rfl, rfl⟩)) (q := 135) mX7_brackets dX7_brackets_132 rfl mt7_248 (Nat.le_of_ble_eq_true rfl) (by decide) (by decide) ?_
        refine aw_istore (q := 137) mX7_brackets dX7_brackets_135 rfl (by decide) rfl ?_
        rw [ebF, ebL]
        refine aw_iload (q := 139) mX7_brackets dX7_brackets_137 rfl rfl ?_
        refine aw_iload (q := 141) mX7_brackets dX7_brackets_139 rfl rfl ?_
        refine aw_icmp_le (tgt := 147) (q := 144) mX7_brackets dX7_brackets_141 rfl (by decide) (fun c_141 => ?_) (fun c_141 => ?_)
        · have hqb : bH μ μ p q := ⟨by omega, c_141⟩
          have hqin := bH_in h2.1 hqb
          have t1 : μ1 49 (bF μ p q) = μ 49 (bF μ p q) := hO 49 _ (by unfold S6; omega)
          have t2 : μ1 49 (bL μ μ p q) = μ 49 (bL μ μ p q) := hO 49 _ (by unfold S6; omega)
          have t3 : μ1 33 (bL μ μ p q) = μ 33 (bL μ μ p q) := hO 33 _ (by unfold S6; omega)
          have hls := PgR_ls hB hR hqin.2.2.1 hqin.2.2.2
          refine aw_aload_n (q := 148) mX7_brackets dX7_brackets_147 rfl rfl ?_
          refine aw_get (t := 2) (ji := 44) (q := 151) mX7_brackets dX7_brackets_148 rfl f7_114 rfl kd_32 rfl (ly_32_44 hl) ?_
          refine aw_iload (q := 153) mX7_brackets dX7_brackets_151 rfl rfl ?_
          refine aw_aload_n (q := 154) mX7_brackets dX7_brackets_153 rfl rfl ?_
          refine aw_get (t := 2) (ji := 28) (q := 157) mX7_brackets dX7_brackets_154 rfl f7_72 rfl kd_32 rfl (ly_32_28 hl) ?_
          refine aw_iload (q := 159) mX7_brackets dX7_brackets_157 rfl rfl ?_
          refine aw_iald (q := 160) mX7_brackets dX7_brackets_159 rfl kd_49 (by omega) (by omega) t1 ?_
          refine aw_iast (q := 161) mX7_brackets dX7_brackets_160 rfl kd_63 (by omega) (by omega) (fun μ_160 e_160 => ?_)
          have hl : Lay n μ_160 := by rw [e_160]; exact Lay.setA la_63 hl
          refine aw_aload_n (q := 162) mX7_brackets dX7_brackets_161 rfl rfl ?_
          refine aw_get (t := 2) (ji := 45) (q := 165) mX7_brackets dX7_brackets_162 rfl f7_117 rfl kd_32 rfl (ly_32_45 hl) ?_
          refine aw_iload (q := 167) mX7_brackets dX7_brackets_165 rfl rfl ?_
          refine aw_aload_n (q := 168) mX7_brackets dX7_brackets_167 rfl rfl ?_
          refine aw_get (t := 2) (ji := 28) (q := 171) mX7_brackets dX7_brackets_168 rfl f7_72 rfl kd_32 rfl (ly_32_28 hl) ?_
          refine aw_iload (q := 173) mX7_brackets dX7_brackets_171 rfl rfl ?_
          refine aw_iald (q := 174) mX7_brackets dX7_brackets_173 rfl kd_49 (by omega) (by omega) (rd_sn e_160 (Or.inl (by decide)) t2) ?_
          refine aw_aload_n (q := 175) mX7_brackets dX7_brackets_174 rfl rfl ?_
          refine aw_get (t := 2) (ji := 9) (q := 178) mX7_brackets dX7_brackets_175 rfl f7_22 rfl kd_32 rfl (ly_32_9 hl) ?_
          refine aw_iload (q := 180) mX7_brackets dX7_brackets_178 rfl rfl ?_
          refine aw_iald (q := 181) mX7_brackets dX7_brackets_180 rfl kd_33 (by omega) (by omega) (rd_sn e_160 (Or.inl (by decide)) t3) ?_
          refine aw_iadd (q := 182) mX7_brackets dX7_brackets_181 rfl (by omega) (by omega) ?_
          refine aw_iast (q := 183) mX7_brackets dX7_brackets_182 rfl kd_64 (by omega) (by omega) (fun μ_182 e_182 => ?_)
          have hl : Lay n μ_182 := by rw [e_182]; exact Lay.setA la_64 hl
          refine aw_aload_n (q := 184) mX7_brackets dX7_brackets_183 rfl rfl ?_
          refine aw_get (t := 2) (ji := 46) (q := 187) mX7_brackets dX7_brackets_184 rfl f7_120 rfl kd_32 rfl (ly_32_46 hl) ?_
          refine aw_iload (q := 189) mX7_brackets dX7_brackets_187 rfl rfl ?_
          refine aw_iconst (q := 190) mX7_brackets dX7_brackets_189 rfl rfl ?_
          refine aw_iast (q := 191) mX7_brackets dX7_brackets_190 rfl kd_65 (by omega) (by omega) (fun μ_190 e_190 => ?_)
          have hl : Lay n μ_190 := by rw [e_190]; exact Lay.setA la_65 hl
          have hO4 : Of S6 μ μ_190 := by rw [e_190, e_182, e_160]; exact ((hO.set (by unfold S6; omega)).set (by unfold S6; omega)).set (by unfold S6; omega)
          have k63 : ∀ k, k ≠ q → μ_190 63 k = μ1 63 k := fun k hk => by rw [e_190, am_sn (Or.inl (by decide)), e_182, am_sn (Or.inl (by decide)), e_160, am_sn (Or.inr hk)]
          have k64 : ∀ k, k ≠ q → μ_190 64 k = μ1 64 k := fun k hk => by rw [e_190, am_sn (Or.inl (by decide)), e_182, am_sn (Or.inr hk), e_160, am_sn (Or.inl (by decide))]
          have k65 : ∀ k, k ≠ q → μ_190 65 k = μ1 65 k := fun k hk => by rw [e_190, am_sn (Or.inr hk), e_182, am_sn (Or.inl (by decide)), e_160, am_sn (Or.inl (by decide))]
          refine C l q _ _ q0 (by omega) hql hqs hqb (fun μ3 h1 h3 => N μ3 _ _ h1 h3) 25 0 μ_190 (by decide) (by decide) hO4 (fun k k0 k1 hk => ?_) ?_ ?_ ?_ (fun c' z0 z1 => by omega)
          · obtain ⟨w1, w2⟩ := hW k k0 k1
            refine ⟨fun z => ?_, fun z => by rw [k63 k hk]; exact w2 z⟩
            obtain ⟨r1, r2, r3⟩ := w1 z
            refine ⟨by rw [k63 k hk]; exact r1, by rw [k64 k hk]; exact r2, r3.cg (k65 k hk) (fun w hw => k65 w (fun y => ?_))⟩
            rw [y] at hw
            have := hw.2.1
            unfold ah at this
            omega
          · rw [e_190, am_sn (Or.inl (by decide)), e_182, am_sn (Or.inl (by decide)), e_160, am_ss]
          · rw [e_190, am_sn (Or.inl (by decide)), e_182, am_ss]
          · rw [e_190, am_ss]
        · refine aw_goto (q := 216) mX7_brackets dX7_brackets_144 (by decide) ?_
          exact N μ1 _ _ hO (hW.nx (fun z => c_141 z.2.2.2))
      refine aw_iload (q := 63) mX7_brackets dX7_brackets_61 rfl rfl ?_
      refine aw_aload_n (q := 64) mX7_brackets dX7_brackets_63 rfl rfl ?_
      refine aw_get (t := 0) (ji := 8) (q := 67) mX7_brackets dX7_brackets_64 rfl f7_136 rfl kd_32 rfl e8 ?_
      refine aw_icmp_ge (tgt := 222) (q := 70) mX7_brackets dX7_brackets_67 rfl (by decide) (fun c_67 => ?_) (fun c_67 => ?_)
      · exact absurd c_67 (by omega)
      · refine aw_aload_n (q := 71) mX7_brackets dX7_brackets_70 rfl rfl ?_
        refine aw_get (t := 2) (ji := 10) (q := 74) mX7_brackets dX7_brackets_71 rfl f7_26 rfl kd_32 rfl (ly_32_10 hl) ?_
        refine aw_iload (q := 76) mX7_brackets dX7_brackets_74 rfl rfl ?_
        refine aw_iald (q := 77) mX7_brackets dX7_brackets_76 rfl kd_34 (by omega) (by omega) e34 ?_
        refine aw_iload (q := 79) mX7_brackets dX7_brackets_77 rfl rfl ?_
        refine aw_icmp_ne (tgt := 216) (q := 82) mX7_brackets dX7_brackets_79 rfl (by decide) (fun c_79 => ?_) (fun c_79 => ?_)
        · exact N μ1 _ _ hO (hW.nx (fun z => c_79 z.1))
        · refine aw_aload_n (q := 83) mX7_brackets dX7_brackets_82 rfl rfl ?_
          refine aw_get (t := 2) (ji := 19) (q := 86) mX7_brackets dX7_brackets_83 rfl f7_53 rfl kd_32 rfl (ly_32_19 hl) ?_
          refine aw_iload (q := 88) mX7_brackets dX7_brackets_86 rfl rfl ?_
          refine aw_iald (q := 89) mX7_brackets dX7_brackets_88 rfl kd_43 (by omega) (by omega) e43 ?_
          refine aw_if_lt (tgt := 216) (q := 92) mX7_brackets dX7_brackets_89 rfl (by decide) (fun c_89 => ?_) (fun c_89 => ?_)
          · exact N μ1 _ _ hO (hW.nx (fun z => by have := z.2.2.1; omega))
          · refine aw_aload_n (q := 93) mX7_brackets dX7_brackets_92 rfl rfl ?_
            refine aw_get (t := 0) (ji := 6) (q := 96) mX7_brackets dX7_brackets_93 rfl f7_157 rfl kd_32 rfl e6 ?_
            refine aw_if_ne (tgt := 111) (q := 99) mX7_brackets dX7_brackets_96 rfl (by decide) (fun c_96 => ?_) (fun c_96 => ?_)
            · exact Y (Decidable.not_not.mp c_79) (by omega) (by unfold md_setB; simp [c_96])
            · refine aw_aload_n (q := 100) mX7_brackets dX7_brackets_99 rfl rfl ?_
              refine aw_iload (q := 102) mX7_brackets dX7_brackets_100 rfl rfl ?_
              refine aw_v1 (ci := 7) (q := 105) mX7_brackets dX7_brackets_102 rfl l7_163 k132_107 rfl kd_32 rfl rfl rfl (hsh) (kint (fun x μ3 hx => ?_))
              obtain ⟨hm3, hx⟩ := hx
              subst hm3
              unfold md_sh at hx
              rw [e5, e38] at hx
              refine aw_if_ne (tgt := 111) (q := 108) mX7_brackets dX7_brackets_105 rfl (by decide) (fun c_105 => ?_) (fun c_105 => ?_)
              · refine Y (Decidable.not_not.mp c_79) (by omega) ?_
                have : am_bit (μ 32 5) (μ 38 q) = 1 := by
                  rcases hx with ⟨-, h2⟩ | ⟨h1, -⟩
                  · exact h2
                  · exact absurd h1 c_105
                unfold md_setB
                simp [this]
              · refine aw_goto (q := 216) mX7_brackets dX7_brackets_108 (by decide) ?_
                refine N _ _ _ hO (hW.nx (fun z => ?_))
                have hns : ¬ am_bit (μ 32 5) (μ 38 q) = 1 := by
                  rcases hx with ⟨h1, -⟩ | ⟨-, h2⟩
                  · exact absurd h1 (by omega)
                  · exact h2
                have := z.2.1
                unfold md_setB at this
                simp [hns, Decidable.not_not.mp c_96] at this
  -- the lines
  have G : ∀ (d : Nat) (l : Int) (μ1 : am_M) (v5 v6 v7 : am_V), 0 ≤ l → l + d = μ 32 7 → Of S6 μ μ1 → Bw μ μ1 p l 0 → AW none 132 49 [(2, 32), (0, p), (0, μ 45 p), (0, μ 45 p + μ 46 p - 1), (0, l), v5, v6, v7] [] n μ1 PP := by
    intro d
    induction d with
    | zero =>
      intro l μ1 v5 v6 v7 l0 ld hO hW
      have hl : Lay n μ1 := hl0.ofW (hO.mono S6_Sw)
      have e7 : μ1 32 7 = μ 32 7 := hO 32 7 (by unfold S6; omega)
      refine aw_iload (q := 51) mX7_brackets dX7_brackets_49 rfl rfl ?_
      refine aw_aload_n (q := 52) mX7_brackets dX7_brackets_51 rfl rfl ?_
      refine aw_get (t := 0) (ji := 7) (q := 55) mX7_brackets dX7_brackets_52 rfl f7_133 rfl kd_32 rfl e7 ?_
      refine aw_icmp_ge (tgt := 228) (q := 58) mX7_brackets dX7_brackets_55 rfl (by decide) (fun c_55 => ?_) (fun c_55 => ?_)
      · refine aw_vret mX7_brackets dX7_brackets_228 ?_
        rw [hPP]
        refine ⟨rfl, rfl, hO, ?_⟩
        rw [show μ 32 7 = l by omega]
        exact hW
      · exact absurd c_55 (by omega)
    | succ d ih =>
      intro l μ1 v5 v6 v7 l0 ld hO hW
      have hl : Lay n μ1 := hl0.ofW (hO.mono S6_Sw)
      have e7 : μ1 32 7 = μ 32 7 := hO 32 7 (by unfold S6; omega)
      refine aw_iload (q := 51) mX7_brackets dX7_brackets_49 rfl rfl ?_
      refine aw_aload_n (q := 52) mX7_brackets dX7_brackets_51 rfl rfl ?_
      refine aw_get (t := 0) (ji := 7) (q := 55) mX7_brackets dX7_brackets_52 rfl f7_133 rfl kd_32 rfl e7 ?_
      refine aw_icmp_ge (tgt := 228) (q := 58) mX7_brackets dX7_brackets_55 rfl (by decide) (fun c_55 => ?_) (fun c_55 => ?_)
      · exact absurd c_55 (by omega)
      · refine aw_iconst (q := 59) mX7_brackets dX7_brackets_58 rfl rfl ?_
        refine aw_istore (q := 61) mX7_brackets dX7_brackets_59 rfl (by decide) rfl ?_
        refine L l l0 (by omega) (fun μ3 q6 q7 h1 h3 => ?_) (μ 32 8).toNat 0 μ1 v6 v7 (by decide) (by omega) hO hW
        refine aw_iinc (q := 225) mX7_brackets dX7_brackets_222 rfl rfl (by decide) (by omega) (by omega) rfl ?_
        refine aw_goto (q := 49) mX7_brackets dX7_brackets_225 (by decide) ?_
        exact ih (l + 1) μ3 (0, μ 32 8) q6 q7 (by omega) (by omega) h1 h3
  -- none at first
  have Z : ∀ (d : Nat) (k : Int) (μ1 : am_M), 0 ≤ k → k + d = μ 32 8 → Of S6 μ μ1 → (∀ k', 0 ≤ k' → k' < k → μ1 63 k' = -1) → AW none 132 2 [(2, 32), (0, p), (0, k), (9, 0), (9, 0), (9, 0), (9, 0), (9, 0)] [] n μ1 PP := by
    intro d
    induction d with
    | zero =>
      intro k μ1 k0 kd hO hz
      have hl : Lay n μ1 := hl0.ofW (hO.mono S6_Sw)
      have e8 : μ1 32 8 = μ 32 8 := hO 32 8 (by unfold S6; omega)
      have e45 : μ1 45 p = μ 45 p := hO 45 p (by unfold S6; omega)
      have e46 : μ1 46 p = μ 46 p := hO 46 p (by unfold S6; omega)
      refine aw_iload_n (q := 3) mX7_brackets dX7_brackets_2 rfl rfl ?_
      refine aw_aload_n (q := 4) mX7_brackets dX7_brackets_3 rfl rfl ?_
      refine aw_get (t := 0) (ji := 8) (q := 7) mX7_brackets dX7_brackets_4 rfl f7_136 rfl kd_32 rfl e8 ?_
      refine aw_icmp_ge (tgt := 23) (q := 10) mX7_brackets dX7_brackets_7 rfl (by decide) (fun c_7 => ?_) (fun c_7 => ?_)
      · refine aw_aload_n (q := 24) mX7_brackets dX7_brackets_23 rfl rfl ?_
        refine aw_get (t := 2) (ji := 24) (q := 27) mX7_brackets dX7_brackets_24 rfl f7_59 rfl kd_32 rfl (ly_32_24 hl) ?_
        refine aw_iload_n (q := 28) mX7_brackets dX7_brackets_27 rfl rfl ?_
        refine aw_iald (q := 29) mX7_brackets dX7_brackets_28 rfl kd_45 (by omega) (by omega) e45 ?_
        refine aw_istore_n (q := 30) mX7_brackets dX7_brackets_29 rfl (by decide) rfl ?_
        refine aw_aload_n (q := 31) mX7_brackets dX7_brackets_30 rfl rfl ?_
        refine aw_get (t := 2) (ji := 24) (q := 34) mX7_brackets dX7_brackets_31 rfl f7_59 rfl kd_32 rfl (ly_32_24 hl) ?_
        refine aw_iload_n (q := 35) mX7_brackets dX7_brackets_34 rfl rfl ?_
        refine aw_iald (q := 36) mX7_brackets dX7_brackets_35 rfl kd_45 (by omega) (by omega) e45 ?_
        refine aw_aload_n (q := 37) mX7_brackets dX7_brackets_36 rfl rfl ?_
        refine aw_get (t := 2) (ji := 25) (q := 40) mX7_brackets dX7_brackets_37 rfl f7_62 rfl kd_32 rfl (ly_32_25 hl) ?_
        refine aw_iload_n (q := 41) mX7_brackets dX7_brackets_40 rfl rfl ?_
        refine aw_iald (q := 42) mX7_brackets dX7_brackets_41 rfl kd_46 (by omega) (by omega) e46 ?_
        refine aw_iadd (q := 43) mX7_brackets dX7_brackets_42 rfl (by omega) (by omega) ?_
        refine aw_iconst (q := 44) mX7_brackets dX7_brackets_43 rfl rfl ?_
        refine aw_isub (q := 45) mX7_brackets dX7_brackets_44 rfl (by omega) (by omega) ?_
        refine aw_istore_n (q := 46) mX7_brackets dX7_brackets_45 rfl (by decide) rfl ?_
        refine aw_iconst (q := 47) mX7_brackets dX7_brackets_46 rfl rfl ?_
        refine aw_istore (q := 49) mX7_brackets dX7_brackets_47 rfl (by decide) rfl ?_
        exact G (μ 32 7).toNat 0 μ1 _ _ _ (by decide) (by omega) hO (fun k z0 z1 => ⟨fun z => absurd z.1 (by have := (b9 k z0 z1).1; omega), fun _ => hz k z0 (by omega)⟩)
      · exact absurd c_7 (by omega)
    | succ d ih =>
      intro k μ1 k0 kd hO hz
      have hl : Lay n μ1 := hl0.ofW (hO.mono S6_Sw)
      have e8 : μ1 32 8 = μ 32 8 := hO 32 8 (by unfold S6; omega)
      refine aw_iload_n (q := 3) mX7_brackets dX7_brackets_2 rfl rfl ?_
      refine aw_aload_n (q := 4) mX7_brackets dX7_brackets_3 rfl rfl ?_
      refine aw_get (t := 0) (ji := 8) (q := 7) mX7_brackets dX7_brackets_4 rfl f7_136 rfl kd_32 rfl e8 ?_
      refine aw_icmp_ge (tgt := 23) (q := 10) mX7_brackets dX7_brackets_7 rfl (by decide) (fun c_7 => ?_) (fun c_7 => ?_)
      · exact absurd c_7 (by omega)
      · refine aw_aload_n (q := 11) mX7_brackets dX7_brackets_10 rfl rfl ?_
        refine aw_get (t := 2) (ji := 44) (q := 14) mX7_brackets dX7_brackets_11 rfl f7_114 rfl kd_32 rfl (ly_32_44 hl) ?_
        refine aw_iload_n (q := 15) mX7_brackets dX7_brackets_14 rfl rfl ?_
        refine aw_iconst (q := 16) mX7_brackets dX7_brackets_15 rfl rfl ?_
        refine aw_iast (q := 17) mX7_brackets dX7_brackets_16 rfl kd_63 (by omega) (by omega) (fun μ_16 e_16 => ?_)
        have hl : Lay n μ_16 := by rw [e_16]; exact Lay.setA la_63 hl
        refine aw_iinc (q := 20) mX7_brackets dX7_brackets_17 rfl rfl (by decide) (by omega) (by omega) rfl ?_
        refine aw_goto (q := 2) mX7_brackets dX7_brackets_20 (by decide) ?_
        refine ih (k + 1) μ_16 (by omega) (by omega) (by rw [e_16]; exact hO.set (by unfold S6; omega)) (fun k' z0 z1 => ?_)
        by_cases hk : k' = k
        · rw [hk, e_16, am_ss]
        · rw [e_16, am_sn (Or.inr hk)]; exact hz k' z0 (by omega)
  refine AC.of rfl ?_
  refine aw_iconst (q := 1) mX7_brackets dX7_brackets_0 rfl rfl ?_
  refine aw_istore_n (q := 2) mX7_brackets dX7_brackets_1 rfl (by decide) rfl ?_
  exact Z (μ 32 8).toNat 0 μ (by decide) (by omega) Of.rf (fun k' z0 z1 => by omega)

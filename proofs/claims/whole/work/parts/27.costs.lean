/-! the reference's table: costs(rest, c) -/
def md_R (μ : am_M) (c i : Int) : List rw_I := md_its μ c (i + 1) (μ 32 40 - i - 1).toNat
theorem md_its_succ {μ : am_M} {c i : Int} (h0 : 0 ≤ i) (h : i < μ 32 40) : md_its μ c i (μ 32 40 - i).toNat = md_it μ c i :: md_R μ c i := by
  unfold md_R
  rw [show (μ 32 40 - i).toNat = (μ 32 40 - i - 1).toNat + 1 by omega]
  rfl
/-- rows of the table behind i are as they should be -/
def Tb (μ μ1 : am_M) (c i : Int) : Prop := ∀ i' t', i < i' → i' < μ 32 40 → 0 ≤ t' → t' ≤ 400 → μ1 62 (401 * i' + t') = rw_D (μ 32 2) (μ 32 3) (md_its μ c i' (μ 32 40 - i').toNat) t'
theorem md_af_last {μ : am_M} {c i z : Int} (h : i = μ 32 40 - 1) : rw_af (μ 32 2) (μ 32 3) (md_R μ c i) z = 0 := by
  unfold md_R
  rw [show (μ 32 40 - i - 1).toNat = 0 by omega]
  rfl
theorem md_af_far {μ : am_M} {c i z : Int} (h0 : 0 ≤ i) (h : i < μ 32 40 - 1) (hz : 400 < z) : rw_af (μ 32 2) (μ 32 3) (md_R μ c i) z = rw_NV := by
  unfold md_R
  rw [show (μ 32 40 - i - 1).toNat = (μ 32 40 - i - 2).toNat + 1 by omega]
  show (if 400 < z then rw_NV else _) = _
  rw [if_pos hz]
theorem md_af_near {μ μ1 : am_M} {c i z : Int} (h0 : 0 ≤ i) (h : i < μ 32 40 - 1) (hz0 : 0 ≤ z) (hz : ¬ 400 < z) (hT : Tb μ μ1 c i) : μ1 62 (401 * (i + 1) + z) = rw_af (μ 32 2) (μ 32 3) (md_R μ c i) z := by
  rw [hT (i + 1) z (by omega) (by omega) hz0 (by omega)]
  unfold md_R
  rw [show (μ 32 40 - (i + 1)).toNat = (μ 32 40 - i - 2).toNat + 1 by omega, show (μ 32 40 - i - 1).toNat = (μ 32 40 - i - 2).toNat + 1 by omega]
  show _ = (if 400 < z then rw_NV else _)
  rw [if_neg hz]
theorem md_it_ok {μ : am_M} (hB : Bk μ) (hR : Rv μ) (hL : Lt μ) {c i : Int} (h0 : 0 ≤ i) (h1 : i < μ 32 40) (hc0 : 0 ≤ c) (hc1 : c < md_choices μ) : rw_ok (md_it μ c i) := by
  have hb := md_tall_b hB hR h0 h1 hc0 hc1
  have h2 := hR.2 i h0 h1
  obtain ⟨n1, n2, n3, n4, n5, n6, n7, n8, n9, -⟩ := hB.2.2.2.2.2.2.2.2 _ h2.1 h2.2
  have h3 := hL i h0 h1
  refine ⟨?_, n9.2, n3.1, n3.2, h3.1, h3.2⟩
  show md_tall μ i c ≤ 600
  omega
theorem md_its_ok {μ : am_M} (hB : Bk μ) (hR : Rv μ) (hL : Lt μ) {c : Int} (hc0 : 0 ≤ c) (hc1 : c < md_choices μ) : ∀ (k : Nat) (i : Int), 0 ≤ i → i + k ≤ μ 32 40 → ∀ it ∈ md_its μ c i k, rw_ok it := by
  intro k
  induction k with
  | zero => intro i _ _ it h; simp [md_its] at h
  | succ k ih =>
    intro i h0 h1 it h
    rcases List.mem_cons.mp h with h | h
    · rw [h]; exact md_it_ok hB hR hL h0 (by omega) hc0 hc1
    · exact ih (i + 1) (by omega) (by omega) it h
theorem md_its_len {μ : am_M} {c : Int} : ∀ (k : Nat) (i : Int), (md_its μ c i k).length = k := by
  intro k
  induction k with
  | zero => intro i; rfl
  | succ k ih => intro i; simp [md_its, ih]
theorem md_af_b {μ : am_M} (hB : Bk μ) (hR : Rv μ) (hL : Lt μ) {c i z : Int} (h0 : 0 ≤ i) (h1 : i < μ 32 40) (hc0 : 0 ≤ c) (hc1 : c < md_choices μ) (hz0 : 0 ≤ z) (hn : rw_af (μ 32 2) (μ 32 3) (md_R μ c i) z < rw_NV) : 0 ≤ rw_af (μ 32 2) (μ 32 3) (md_R μ c i) z ∧ rw_af (μ 32 2) (μ 32 3) (md_R μ c i) z ≤ 192000 := by
  by_cases hl : i = μ 32 40 - 1
  · rw [md_af_last hl]; omega
  · by_cases hz : 400 < z
    · rw [md_af_far h0 (by omega) hz] at hn; omega
    · have e : rw_af (μ 32 2) (μ 32 3) (md_R μ c i) z = rw_D (μ 32 2) (μ 32 3) (md_R μ c i) z := by
        unfold md_R
        rw [show (μ 32 40 - i - 1).toNat = (μ 32 40 - i - 2).toNat + 1 by omega]
        show (if 400 < z then rw_NV else _) = _
        rw [if_neg hz]
      rw [e] at hn ⊢
      have := rw_D_b (by have := hB.2.1; omega) (md_its_ok hB hR hL hc0 hc1 _ _ (by omega) (by omega)) hz0 (by omega) hn
      have h24 := hR.1
      unfold md_R at this ⊢
      rw [md_its_len] at this
      omega
theorem rw_b_b {h g : Int} {it : rw_I} {af : Int → Int} (hok : rw_ok it) (haf : ∀ z, 0 ≤ z → af z < rw_NV → 0 ≤ af z ∧ af z ≤ 192000) (hg : 0 ≤ g) : ∀ u : Nat, u ≤ 401 → 0 ≤ rw_b h g it af u ∧ rw_b h g it af u ≤ rw_NV := by
  intro u
  induction u with
  | zero => intro _; exact ⟨by show (0 : Int) ≤ 1000000000000; decide, Int.le_refl _⟩
  | succ u ih =>
    intro hu
    obtain ⟨i1, i2⟩ := ih (by omega)
    rw [rw_b]
    split
    · rename_i hc
      have h1 := haf _ (by have := hc.1.1; omega) hc.2
      have h2 := rw_own_b hok (x := 400 - (u : Int)) (by omega) (by omega)
      omega
    · exact ⟨i1, i2⟩
theorem pX7_costs_in (n : Nat) (μ : am_M) (rest c i : Int) (hl : Lay n μ) (hB : Bk μ) (hR : Rv μ) (hL : Lt μ) (hc0 : 0 ≤ c) (hc1 : c < md_choices μ) (hi0 : 0 ≤ i) (hi1 : i < μ 32 40) (Q : Option am_V → Nat → am_M → Prop)
    (kk : ∀ (μ2 : am_M) (b t : Int) (v10 v11 v12 : am_V), Off 62 μ μ2 → Tb μ μ2 c (i - 1) → AW none 118 223 [(2, 32), (0, rest), (0, c), (0, 401), (0, i), (0, μ 59 i), (0, md_tall μ i c), (1, b), (9, 0), (0, t), v10, v11, v12] [] n μ2 Q) :
    ∀ (d u : Nat) (μ1 : am_M) (v10 v11 v12 : am_V), u + d = 401 → Off 62 μ μ1 → Tb μ μ1 c i → (∀ t', 401 - (u : Int) ≤ t' → t' ≤ 400 → μ1 62 (401 * i + t') = rw_b (μ 32 2) (μ 32 3) (md_it μ c i) (rw_af (μ 32 2) (μ 32 3) (md_R μ c i)) (401 - t').toNat) →
      AW none 118 75 [(2, 32), (0, rest), (0, c), (0, 401), (0, i), (0, μ 59 i), (0, md_tall μ i c), (1, rw_b (μ 32 2) (μ 32 3) (md_it μ c i) (rw_af (μ 32 2) (μ 32 3) (md_R μ c i)) u), (9, 0), (0, 400 - (u : Int)), v10, v11, v12] [] n μ1 Q := by
  intro d
  have hb := md_tall_b hB hR hi0 hi1 hc0 hc1
  obtain ⟨r1, r2⟩ := id hR
  obtain ⟨b1, b2, -, -, -, b6, b7, -, b9⟩ := id hB
  have hr := r2 i hi0 hi1
  have hN := b9 _ hr.1 hr.2
  obtain ⟨n1, n2, n3, n4, n5, n6, n7, n8, n9, -⟩ := id hN
  have hLi := hL i hi0 hi1
  have hok := md_it_ok hB hR hL hi0 hi1 hc0 hc1
  have hbb := rw_b_b (h := μ 32 2) (g := μ 32 3) hok (fun z hz0 hz => md_af_b hB hR hL hi0 hi1 hc0 hc1 hz0 hz) b2.1
  have hNV : rw_NV = 1000000000000 := rfl
  induction d with
  | zero =>
    intro u μ1 v10 v11 v12 hud hO hT hI
    refine aw_iload (q := 77) mX7_costs dX7_costs_75 rfl rfl ?_
    refine aw_if_lt (tgt := 223) (q := 80) mX7_costs dX7_costs_77 rfl (by decide) (fun c_77 => ?_) (fun c_77 => ?_)
    · refine kk μ1 _ _ _ _ _ hO (fun i' t' h1 h2 h3 h4 => ?_)
      by_cases he : i' = i
      · subst he
        rw [hI t' (by omega) h4, md_its_succ hi0 h2]
        rfl
      · exact hT i' t' (by omega) h2 h3 h4
    · exact absurd c_77 (by omega)
  | succ d ih =>
    intro u μ1 v10 v11 v12 hud hO hT hI
    have hl : Lay n μ1 := hl.off hO la_62
    have hBE := hO.be (by omega)
    have hRE := hO.re (by decide) (by decide)
    have hbu := hbb u (by omega)
    -- behind the choice: store and go on
    have J : ∀ (b : Int) (w10 w11 w12 : am_V), b = rw_b (μ 32 2) (μ 32 3) (md_it μ c i) (rw_af (μ 32 2) (μ 32 3) (md_R μ c i)) (u + 1) → AW none 118 203 [(2, 32), (0, rest), (0, c), (0, 401), (0, i), (0, μ 59 i), (0, md_tall μ i c), (1, b), (9, 0), (0, 400 - (u : Int)), w10, w11, w12] [] n μ1 Q := by
      intro b w10 w11 w12 hbe
      refine aw_aload_n (q := 204) mX7_costs dX7_costs_203 rfl rfl ?_
      refine aw_get (t := 2) (ji := 43) (q := 207) mX7_costs dX7_costs_204 rfl f7_111 rfl kd_32 rfl (ly_32_43 hl) ?_
      refine aw_iload_n (q := 208) mX7_costs dX7_costs_207 rfl rfl ?_
      refine aw_iload (q := 210) mX7_costs dX7_costs_208 rfl rfl ?_
      refine aw_imul (q := 211) mX7_costs dX7_costs_210 rfl (by omega) (by omega) ?_
      refine aw_iload (q := 213) mX7_costs dX7_costs_211 rfl rfl ?_
      refine aw_iadd (q := 214) mX7_costs dX7_costs_213 rfl (by omega) (by omega) ?_
      refine aw_lload (q := 216) mX7_costs dX7_costs_214 rfl rfl ?_
      refine aw_last (q := 217) mX7_costs dX7_costs_216 rfl kd_62 (by omega) (by omega) (fun μ_216 e_216 => ?_)
      have hl : Lay n μ_216 := by rw [e_216]; exact Lay.setA la_62 hl
      refine aw_iinc (q := 220) mX7_costs dX7_costs_217 rfl rfl (by decide) (by omega) (by omega) rfl ?_
      refine aw_goto (q := 75) mX7_costs dX7_costs_220 (by decide) ?_
      have h2 := ih (u + 1) μ_216 w10 w11 w12 (by omega) (by rw [e_216]; exact hO.set) (fun i' t' h1 h2 h3 h4 => by
          rw [e_216, am_sn (Or.inr (by omega))]
          exact hT i' t' h1 h2 h3 h4) (fun t' h1 h2 => by
          by_cases he : t' = 400 - (u : Int)
          · rw [e_216, he, am_ss, hbe, show (401 - (400 - (u : Int))).toNat = u + 1 by omega]
          · rw [e_216, am_sn (Or.inr (by omega))]
            exact hI t' (by omega) h2)
      rw [← hbe] at h2
      have e9 : (400 : Int) - ((u + 1 : Nat) : Int) = 400 - (u : Int) + -1 := by omega
      rw [e9] at h2
      exact h2
    have hrw : rw_b (μ 32 2) (μ 32 3) (md_it μ c i) (rw_af (μ 32 2) (μ 32 3) (md_R μ c i)) (u + 1) = if (0 ≤ md_tall μ i c ∧ (400 - (u : Int)) + md_tall μ i c ≤ μ 32 2 ∧ (μ 42 (μ 59 i) < 0 ∨ μ 42 (μ 59 i) = 400 - (u : Int))) ∧ rw_af (μ 32 2) (μ 32 3) (md_R μ c i) (400 - (u : Int) + md_tall μ i c + μ 32 3) < rw_NV then min (rw_b (μ 32 2) (μ 32 3) (md_it μ c i) (rw_af (μ 32 2) (μ 32 3) (md_R μ c i)) u) (rw_af (μ 32 2) (μ 32 3) (md_R μ c i) (400 - (u : Int) + md_tall μ i c + μ 32 3) + rw_own (md_it μ c i) (400 - (u : Int))) else rw_b (μ 32 2) (μ 32 3) (md_it μ c i) (rw_af (μ 32 2) (μ 32 3) (md_R μ c i)) u := rfl
    have e2 : μ1 32 2 = μ 32 2 := hO 32 2 (by decide)
    have e3 : μ1 32 3 = μ 32 3 := hO 32 3 (by decide)
    have e40 : μ1 32 40 = μ 32 40 := hO 32 40 (by decide)
    have e42 : μ1 42 (μ 59 i) = μ 42 (μ 59 i) := hO 42 _ (by decide)
    have hown := pX7_own n μ1 (μ 59 i) (400 - (u : Int)) (md_tall μ i c) 0 hl (by omega) (by omega) (hN.tr hBE) (by rw [hO 32 7 (by decide)]; omega) (by omega) (by omega) (by rw [hO 49 _ (by decide), hO 34 _ (by decide)]; exact hLi.1) (by rw [hO 49 _ (by decide), hO 34 _ (by decide)]; exact hLi.2)
    rw [hO 49 _ (by decide), hO 34 _ (by decide), e42, hO 36 _ (by decide)] at hown
    have hob := rw_own_b hok (x := 400 - (u : Int)) (by omega) (by omega)
    -- the place can be: what comes behind
    have K : 0 ≤ md_tall μ i c → (400 - (u : Int)) + md_tall μ i c ≤ μ 32 2 → (μ 42 (μ 59 i) < 0 ∨ μ 42 (μ 59 i) = 400 - (u : Int)) → AW none 118 119 [(2, 32), (0, rest), (0, c), (0, 401), (0, i), (0, μ 59 i), (0, md_tall μ i c), (1, rw_b (μ 32 2) (μ 32 3) (md_it μ c i) (rw_af (μ 32 2) (μ 32 3) (md_R μ c i)) u), (9, 0), (0, 400 - (u : Int)), v10, v11, v12] [] n μ1 Q := by
      intro k1 k2 k3
      obtain ⟨z, hz⟩ : ∃ z, z = 400 - (u : Int) + md_tall μ i c + μ 32 3 := ⟨_, rfl⟩
      have K2 : ∀ a : Int, a = rw_af (μ 32 2) (μ 32 3) (md_R μ c i) z → AW none 118 174 [(2, 32), (0, rest), (0, c), (0, 401), (0, i), (0, μ 59 i), (0, md_tall μ i c), (1, rw_b (μ 32 2) (μ 32 3) (md_it μ c i) (rw_af (μ 32 2) (μ 32 3) (md_R μ c i)) u), (9, 0), (0, 400 - (u : Int)), (0, z), v11, v12] [(1, a)] n μ1 Q := by
        intro a ha
        refine aw_lstore (q := 176) mX7_costs dX7_costs_174 rfl (by decide) rfl ?_
        refine aw_lload (q := 178) mX7_costs dX7_costs_176 rfl rfl ?_
        refine aw_ldc2 (q := 181) mX7_costs dX7_costs_178 rfl ld7_198 ?_
        refine aw_lcmp (q := 182) mX7_costs dX7_costs_181 rfl ?_
        refine aw_if_ge (tgt := 203) (q := 185) mX7_costs dX7_costs_182 rfl (by decide) (fun c_182 => ?_) (fun c_182 => ?_)
        · -- NEVER
          refine J _ _ _ _ ?_
          rw [hrw, ← hz, ← ha, if_neg (fun q => ?_)]
          have := q.2
          unfold am_cmp at c_182
          rw [if_neg (by omega), if_neg (by omega)] at c_182
          omega
        · have hlt : a < rw_NV := by
            unfold am_cmp at c_182
            rcases Int.lt_or_le a rw_NV with q | q
            · exact q
            · exfalso
              apply c_182
              split
              · decide
              · rw [if_pos (by omega)]; decide
          have hab := md_af_b hB hR hL hi0 hi1 hc0 hc1 (show 0 ≤ z by omega) (by rw [← ha]; exact hlt)
          rw [← ha] at hab
          refine aw_lload (q := 187) mX7_costs dX7_costs_185 rfl rfl ?_
          refine aw_lload (q := 189) mX7_costs dX7_costs_187 rfl rfl ?_
          refine aw_aload_n (q := 190) mX7_costs dX7_costs_189 rfl rfl ?_
          refine aw_iload (q := 192) mX7_costs dX7_costs_190 rfl rfl ?_
          refine aw_iload (q := 194) mX7_costs dX7_costs_192 rfl rfl ?_
          refine aw_v2 (ci := 7) (q := 197) mX7_costs dX7_costs_194 rfl l7_200 k118_119 rfl kd_32 rfl rfl rfl (hown) (kpure ?_)
          refine aw_ladd (q := 198) mX7_costs dX7_costs_197 rfl (by show _ ≤ a + rw_own (md_it μ c i) (400 - (u : Int)); omega) (by show a + rw_own (md_it μ c i) (400 - (u : Int)) < _; omega) ?_
          refine aw_m2 (Or.inr (Or.inr ⟨rfl, rfl, rfl⟩)) (q := 201) mX7_costs dX7_costs_198 rfl mt7_204 (Nat.le_of_ble_eq_true rfl) (by decide) (by decide) ?_
          refine aw_lstore (q := 203) mX7_costs dX7_costs_201 rfl (by decide) rfl ?_
          refine J _ _ _ _ ?_
          rw [hrw, ← hz, ← ha, if_pos ⟨⟨k1, k2, k3⟩, hlt⟩]
          rfl
      refine aw_iload (q := 121) mX7_costs dX7_costs_119 rfl rfl ?_
      refine aw_iload (q := 123) mX7_costs dX7_costs_121 rfl rfl ?_
      refine aw_iadd (q := 124) mX7_costs dX7_costs_123 rfl (by omega) (by omega) ?_
      refine aw_aload_n (q := 125) mX7_costs dX7_costs_124 rfl rfl ?_
      refine aw_get (t := 0) (ji := 3) (q := 128) mX7_costs dX7_costs_125 rfl f7_13 rfl kd_32 rfl e3 ?_
      refine aw_iadd (q := 129) mX7_costs dX7_costs_128 rfl (by omega) (by omega) ?_
      refine aw_istore (q := 131) mX7_costs dX7_costs_129 rfl (by decide) rfl ?_
      refine aw_iload (q := 133) mX7_costs dX7_costs_131 rfl rfl ?_
      refine aw_aload_n (q := 134) mX7_costs dX7_costs_133 rfl rfl ?_
      refine aw_get (t := 0) (ji := 40) (q := 137) mX7_costs dX7_costs_134 rfl f7_169 rfl kd_32 rfl e40 ?_
      refine aw_iconst (q := 138) mX7_costs dX7_costs_137 rfl rfl ?_
      refine aw_isub (q := 139) mX7_costs dX7_costs_138 rfl (by omega) (by omega) ?_
      refine aw_icmp_ne (tgt := 146) (q := 142) mX7_costs dX7_costs_139 rfl (by decide) (fun c_139 => ?_) (fun c_139 => ?_)
      · -- not the last
        rw [← hz]
        refine aw_iload (q := 148) mX7_costs dX7_costs_146 rfl rfl ?_
        refine aw_sipush (q := 151) mX7_costs dX7_costs_148 rfl rfl ?_
        refine aw_icmp_le (tgt := 160) (q := 154) mX7_costs dX7_costs_151 rfl (by decide) (fun c_151 => ?_) (fun c_151 => ?_)
        · refine aw_aload_n (q := 161) mX7_costs dX7_costs_160 rfl rfl ?_
          refine aw_get (t := 2) (ji := 43) (q := 164) mX7_costs dX7_costs_161 rfl f7_111 rfl kd_32 rfl (ly_32_43 hl) ?_
          refine aw_iload_n (q := 165) mX7_costs dX7_costs_164 rfl rfl ?_
          refine aw_iload (q := 167) mX7_costs dX7_costs_165 rfl rfl ?_
          refine aw_iconst (q := 168) mX7_costs dX7_costs_167 rfl rfl ?_
          refine aw_iadd (q := 169) mX7_costs dX7_costs_168 rfl (by omega) (by omega) ?_
          refine aw_imul (q := 170) mX7_costs dX7_costs_169 rfl (by omega) (by omega) ?_
          refine aw_iload (q := 172) mX7_costs dX7_costs_170 rfl rfl ?_
          refine aw_iadd (q := 173) mX7_costs dX7_costs_172 rfl (by omega) (by omega) ?_
          refine aw_lald (q := 174) mX7_costs dX7_costs_173 rfl kd_62 (by omega) (by omega) rfl ?_
          exact K2 _ (md_af_near hi0 (by omega) (by omega) (by omega) hT)
        · refine aw_ldc2 (q := 157) mX7_costs dX7_costs_154 rfl ld7_198 ?_
          refine aw_goto (q := 174) mX7_costs dX7_costs_157 (by decide) ?_
          exact K2 _ (md_af_far hi0 (by omega) (by omega)).symm
      · rw [← hz]
        refine aw_lconst (x := 0) (q := 143) mX7_costs dX7_costs_142 rfl rfl ?_
        refine aw_goto (q := 174) mX7_costs dX7_costs_143 (by decide) ?_
        exact K2 _ (md_af_last (by omega)).symm
    refine aw_iload (q := 77) mX7_costs dX7_costs_75 rfl rfl ?_
    refine aw_if_lt (tgt := 223) (q := 80) mX7_costs dX7_costs_77 rfl (by decide) (fun c_77 => ?_) (fun c_77 => ?_)
    · exact absurd c_77 (by omega)
    · refine aw_iload (q := 82) mX7_costs dX7_costs_80 rfl rfl ?_
      refine aw_if_lt (tgt := 203) (q := 85) mX7_costs dX7_costs_82 rfl (by decide) (fun c_82 => ?_) (fun c_82 => ?_)
      · exact J _ _ _ _ (by rw [hrw, if_neg (fun q => by omega)])
      · refine aw_iload (q := 87) mX7_costs dX7_costs_85 rfl rfl ?_
        refine aw_iload (q := 89) mX7_costs dX7_costs_87 rfl rfl ?_
        refine aw_iadd (q := 90) mX7_costs dX7_costs_89 rfl (by omega) (by omega) ?_
        refine aw_aload_n (q := 91) mX7_costs dX7_costs_90 rfl rfl ?_
        refine aw_get (t := 0) (ji := 2) (q := 94) mX7_costs dX7_costs_91 rfl f7_7 rfl kd_32 rfl e2 ?_
        refine aw_icmp_gt (tgt := 203) (q := 97) mX7_costs dX7_costs_94 rfl (by decide) (fun c_94 => ?_) (fun c_94 => ?_)
        · exact J _ _ _ _ (by rw [hrw, if_neg (fun q => by omega)])
        · refine aw_aload_n (q := 98) mX7_costs dX7_costs_97 rfl rfl ?_
          refine aw_get (t := 2) (ji := 18) (q := 101) mX7_costs dX7_costs_98 rfl f7_50 rfl kd_32 rfl (ly_32_18 hl) ?_
          refine aw_iload (q := 103) mX7_costs dX7_costs_101 rfl rfl ?_
          refine aw_iald (q := 104) mX7_costs dX7_costs_103 rfl kd_42 (by omega) (by omega) e42 ?_
          refine aw_if_lt (tgt := 119) (q := 107) mX7_costs dX7_costs_104 rfl (by decide) (fun c_104 => ?_) (fun c_104 => ?_)
          · exact K (by omega) (by omega) (Or.inl c_104)
          · refine aw_aload_n (q := 108) mX7_costs dX7_costs_107 rfl rfl ?_
            refine aw_get (t := 2) (ji := 18) (q := 111) mX7_costs dX7_costs_108 rfl f7_50 rfl kd_32 rfl (ly_32_18 hl) ?_
            refine aw_iload (q := 113) mX7_costs dX7_costs_111 rfl rfl ?_
            refine aw_iald (q := 114) mX7_costs dX7_costs_113 rfl kd_42 (by omega) (by omega) e42 ?_
            refine aw_iload (q := 116) mX7_costs dX7_costs_114 rfl rfl ?_
            refine aw_icmp_ne (tgt := 203) (q := 119) mX7_costs dX7_costs_116 rfl (by decide) (fun c_116 => ?_) (fun c_116 => ?_)
            · exact J _ _ _ _ (by rw [hrw, if_neg (fun q => by omega)])
            · exact K (by omega) (by omega) (Or.inr (by omega))

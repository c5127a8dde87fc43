/-- a long, and memory with P -/
abbrev PL (n : Nat) (P : Int → am_M → Prop) : Option am_V → Nat → am_M → Prop := fun r n' μ' => ∃ x, r = some (1, x) ∧ n' = n ∧ P x μ'
theorem klong {sc : am_Sc} {k q : Nat} {L st : List am_V} {n : Nat} {Q : Option am_V → Nat → am_M → Prop} {P : Int → am_M → Prop} (h : ∀ x μ', P x μ' → AW sc k q L ((1, x) :: st) n μ' Q) : ∀ r n' μ', PL n P r n' μ' → AW sc k q L (r.toList ++ st) n' μ' Q := by
  intro r n' μ' ⟨x, h1, h2, h3⟩
  rw [h1, h2]
  exact h x μ' h3
def md_cost (μ : am_M) (rest c : Int) : Int := if 0 < μ 32 40 ∧ 400 < md_top0 μ rest then rw_NV else if rw_NV ≤ rw_D (μ 32 2) (μ 32 3) (md_its μ c 0 (μ 32 40).toNat) (md_top0 μ rest) then rw_NV else rw_D (μ 32 2) (μ 32 3) (md_its μ c 0 (μ 32 40).toNat) (md_top0 μ rest) + if 0 < c then μ 32 4 else 0
/-- the end of costs: the table stands -/
theorem pX7_costs_end (n : Nat) (μ : am_M) (rest c : Int) (hl : Lay n μ) (hB : Bk μ) (hR : Rv μ) (hL : Lt μ) (hc0 : 0 ≤ c) (hc1 : c < md_choices μ) (hr0 : 0 ≤ rest) (hr1 : rest ≤ 400) (μ1 : am_M) (v3 v4 v5 v6 v7 v8 v9 v10 v11 v12 : am_V) (h3 : v3.1 = 0) (h4 : v4.1 = 0) (hO : Off 62 μ μ1) (hT : Tb μ μ1 c (-1)) : AW none 118 229 [(2, 32), (0, rest), (0, c), v3, v4, v5, v6, v7, v8, v9, v10, v11, v12] [] n μ1 (PL n (fun x μ' => x = md_cost μ rest c ∧ Off 62 μ μ' ∧ Tb μ μ' c (-1))) := by
  obtain ⟨w3, x3⟩ := v3
  obtain ⟨w4, x4⟩ := v4
  cases h3
  cases h4
  have hNV : rw_NV = 1000000000000 := rfl
  have hl : Lay n μ1 := hl.off hO la_62
  obtain ⟨r1, r2⟩ := id hR
  obtain ⟨b1, b2, b3, -⟩ := id hB
  have e3 : μ1 32 3 = μ 32 3 := hO 32 3 (by decide)
  have e4 : μ1 32 4 = μ 32 4 := hO 32 4 (by decide)
  have e40 : μ1 32 40 = μ 32 40 := hO 32 40 (by decide)
  have ht0 : 0 ≤ md_top0 μ rest := by unfold md_top0; split <;> omega
  have ht1 : md_top0 μ rest ≤ 420 := by unfold md_top0; split <;> omega
  -- with the top at hand
  have J : AW none 118 245 [(2, 32), (0, rest), (0, c), (0, x3), (0, md_top0 μ rest), v5, v6, v7, v8, v9, v10, v11, v12] [] n μ1 (PL n (fun x μ' => x = md_cost μ rest c ∧ Off 62 μ μ' ∧ Tb μ μ' c (-1))) := by
    have K : ∀ s : Int, ¬ (0 < μ 32 40 ∧ 400 < md_top0 μ rest) → s = rw_D (μ 32 2) (μ 32 3) (md_its μ c 0 (μ 32 40).toNat) (md_top0 μ rest) → AW none 118 282 [(2, 32), (0, rest), (0, c), (0, x3), (0, md_top0 μ rest), v5, v6, v7, v8, v9, v10, v11, v12] [(1, s)] n μ1 (PL n (fun x μ' => x = md_cost μ rest c ∧ Off 62 μ μ' ∧ Tb μ μ' c (-1))) := by
      intro s hn hs
      unfold md_cost
      rw [if_neg hn, ← hs]
      have hcm : am_cmp s 1000000000000 < 0 ↔ s < rw_NV := by
        unfold am_cmp
        constructor
        · intro h
          split at h
          · exact absurd h (by decide)
          · split at h
            · exact absurd h (by decide)
            · omega
        · intro h
          rw [if_neg (by omega), if_neg (by omega)]
          decide
      refine aw_lstore (q := 284) mX7_costs dX7_costs_282 rfl (by decide) rfl ?_
      refine aw_lload (q := 286) mX7_costs dX7_costs_284 rfl rfl ?_
      refine aw_ldc2 (q := 289) mX7_costs dX7_costs_286 rfl ld7_198 ?_
      refine aw_lcmp (q := 290) mX7_costs dX7_costs_289 rfl ?_
      refine aw_if_lt (tgt := 299) (q := 293) mX7_costs dX7_costs_290 rfl (by decide) (fun c_290 => ?_) (fun c_290 => ?_)
      · have hsN := hcm.mp c_290
        have hsb : 0 ≤ s ∧ s ≤ 192000 := by
          rw [hs] at hsN ⊢
          by_cases hz : md_top0 μ rest ≤ 401
          · have h9 := rw_D_b b2.1 (md_its_ok hB hR hL hc0 hc1 (μ 32 40).toNat 0 (by omega) (by omega)) ht0 hz hsN
            rw [md_its_len] at h9
            omega
          · have h9 : (μ 32 40).toNat = 0 := by omega
            rw [h9] at hsN ⊢
            show 0 ≤ (0 : Int) ∧ (0 : Int) ≤ 192000
            decide
        rw [if_neg (by omega)]
        refine aw_lload (q := 301) mX7_costs dX7_costs_299 rfl rfl ?_
        refine aw_iload_n (q := 302) mX7_costs dX7_costs_301 rfl rfl ?_
        refine aw_if_le (tgt := 312) (q := 305) mX7_costs dX7_costs_302 rfl (by decide) (fun c_302 => ?_) (fun c_302 => ?_)
        · rw [if_neg (by omega)]
          refine aw_iconst (q := 313) mX7_costs dX7_costs_312 rfl rfl ?_
          refine aw_i2l (q := 314) mX7_costs dX7_costs_313 rfl ?_
          refine aw_ladd (q := 315) mX7_costs dX7_costs_314 rfl (by omega) (by omega) ?_
          refine aw_lret mX7_costs dX7_costs_315 ?_
          exact ⟨_, rfl, rfl, rfl, hO, hT⟩
        · rw [if_pos (by omega)]
          refine aw_aload_n (q := 306) mX7_costs dX7_costs_305 rfl rfl ?_
          refine aw_get (t := 0) (ji := 4) (q := 309) mX7_costs dX7_costs_306 rfl f7_16 rfl kd_32 rfl e4 ?_
          refine aw_goto (q := 313) mX7_costs dX7_costs_309 (by decide) ?_
          refine aw_i2l (q := 314) mX7_costs dX7_costs_313 rfl ?_
          refine aw_ladd (q := 315) mX7_costs dX7_costs_314 rfl (by omega) (by omega) ?_
          refine aw_lret mX7_costs dX7_costs_315 ?_
          exact ⟨_, rfl, rfl, rfl, hO, hT⟩
      · rw [if_pos (by have := mt hcm.mpr c_290; omega)]
        refine aw_ldc2 (q := 296) mX7_costs dX7_costs_293 rfl ld7_198 ?_
        refine aw_goto (q := 315) mX7_costs dX7_costs_296 (by decide) ?_
        refine aw_lret mX7_costs dX7_costs_315 ?_
        exact ⟨_, rfl, rfl, rfl, hO, hT⟩
    have M : ¬ (0 < μ 32 40 ∧ 400 < md_top0 μ rest) → AW none 118 264 [(2, 32), (0, rest), (0, c), (0, x3), (0, md_top0 μ rest), v5, v6, v7, v8, v9, v10, v11, v12] [] n μ1 (PL n (fun x μ' => x = md_cost μ rest c ∧ Off 62 μ μ' ∧ Tb μ μ' c (-1))) := by
      intro hn
      refine aw_aload_n (q := 265) mX7_costs dX7_costs_264 rfl rfl ?_
      refine aw_get (t := 0) (ji := 40) (q := 268) mX7_costs dX7_costs_265 rfl f7_169 rfl kd_32 rfl e40 ?_
      refine aw_if_ne (tgt := 275) (q := 271) mX7_costs dX7_costs_268 rfl (by decide) (fun c_268 => ?_) (fun c_268 => ?_)
      · refine aw_aload_n (q := 276) mX7_costs dX7_costs_275 rfl rfl ?_
        refine aw_get (t := 2) (ji := 43) (q := 279) mX7_costs dX7_costs_276 rfl f7_111 rfl kd_32 rfl (ly_32_43 hl) ?_
        refine aw_iload (q := 281) mX7_costs dX7_costs_279 rfl rfl ?_
        refine aw_lald (q := 282) mX7_costs dX7_costs_281 rfl kd_62 (by omega) (by omega) rfl ?_
        refine K _ hn ?_
        have h9 := hT 0 (md_top0 μ rest) (by omega) (by omega) ht0 (by omega)
        rw [show 401 * (0 : Int) + md_top0 μ rest = md_top0 μ rest by omega, show μ 32 40 - 0 = μ 32 40 by omega] at h9
        exact h9
      · refine aw_lconst (x := 0) (q := 272) mX7_costs dX7_costs_271 rfl rfl ?_
        refine aw_goto (q := 282) mX7_costs dX7_costs_272 (by decide) ?_
        refine K _ hn ?_
        rw [show (μ 32 40).toNat = 0 by omega]
        rfl
    refine aw_aload_n (q := 246) mX7_costs dX7_costs_245 rfl rfl ?_
    refine aw_get (t := 0) (ji := 40) (q := 249) mX7_costs dX7_costs_246 rfl f7_169 rfl kd_32 rfl e40 ?_
    refine aw_if_le (tgt := 264) (q := 252) mX7_costs dX7_costs_249 rfl (by decide) (fun c_249 => ?_) (fun c_249 => ?_)
    · exact M (by omega)
    · refine aw_iload (q := 254) mX7_costs dX7_costs_252 rfl rfl ?_
      refine aw_sipush (q := 257) mX7_costs dX7_costs_254 rfl rfl ?_
      refine aw_icmp_le (tgt := 264) (q := 260) mX7_costs dX7_costs_257 rfl (by decide) (fun c_257 => ?_) (fun c_257 => ?_)
      · exact M (by omega)
      · refine aw_ldc2 (q := 263) mX7_costs dX7_costs_260 rfl ld7_198 ?_
        refine aw_lret mX7_costs dX7_costs_263 ?_
        refine ⟨_, rfl, rfl, ?_, hO, hT⟩
        unfold md_cost
        rw [if_pos ⟨by omega, by omega⟩]
        rfl
  have ht : md_top0 μ rest = if 0 < rest then rest + μ 32 3 else 0 := rfl
  refine aw_iload_n (q := 230) mX7_costs dX7_costs_229 rfl rfl ?_
  refine aw_if_le (tgt := 242) (q := 233) mX7_costs dX7_costs_230 rfl (by decide) (fun c_230 => ?_) (fun c_230 => ?_)
  · rw [if_neg (by omega)] at ht
    rw [ht] at J
    refine aw_iconst (q := 243) mX7_costs dX7_costs_242 rfl rfl ?_
    refine aw_istore (q := 245) mX7_costs dX7_costs_243 rfl (by decide) rfl ?_
    exact J
  · rw [if_pos (by omega)] at ht
    rw [ht] at J
    refine aw_iload_n (q := 234) mX7_costs dX7_costs_233 rfl rfl ?_
    refine aw_aload_n (q := 235) mX7_costs dX7_costs_234 rfl rfl ?_
    refine aw_get (t := 0) (ji := 3) (q := 238) mX7_costs dX7_costs_235 rfl f7_13 rfl kd_32 rfl e3 ?_
    refine aw_iadd (q := 239) mX7_costs dX7_costs_238 rfl (by omega) (by omega) ?_
    refine aw_goto (q := 243) mX7_costs dX7_costs_239 (by decide) ?_
    refine aw_istore (q := 245) mX7_costs dX7_costs_243 rfl (by decide) rfl ?_
    exact J
theorem pX7_costs_out (n : Nat) (μ : am_M) (rest c : Int) (hl : Lay n μ) (hB : Bk μ) (hR : Rv μ) (hL : Lt μ) (hc0 : 0 ≤ c) (hc1 : c < md_choices μ) (hr0 : 0 ≤ rest) (hr1 : rest ≤ 400) : ∀ (k : Nat) (μ1 : am_M) (v5 v6 v7 v8 v9 v10 v11 v12 : am_V), (k : Int) ≤ μ 32 40 → Off 62 μ μ1 → Tb μ μ1 c ((k : Int) - 1) → AW none 118 42 [(2, 32), (0, rest), (0, c), (0, 401), (0, (k : Int) - 1), v5, v6, v7, v8, v9, v10, v11, v12] [] n μ1 (PL n (fun x μ' => x = md_cost μ rest c ∧ Off 62 μ μ' ∧ Tb μ μ' c (-1))) := by
  obtain ⟨r1, r2⟩ := id hR
  intro k
  induction k with
  | zero =>
    intro μ1 v5 v6 v7 v8 v9 v10 v11 v12 hk hO hT
    refine aw_iload (q := 44) mX7_costs dX7_costs_42 rfl rfl ?_
    refine aw_if_lt (tgt := 229) (q := 47) mX7_costs dX7_costs_44 rfl (by decide) (fun c_44 => ?_) (fun c_44 => ?_)
    · exact pX7_costs_end n μ rest c hl hB hR hL hc0 hc1 hr0 hr1 μ1 _ _ _ _ _ _ _ _ _ _ rfl rfl hO hT
    · exact absurd c_44 (by omega)
  | succ k ih =>
    intro μ1 v5 v6 v7 v8 v9 v10 v11 v12 hk hO hT
    have hl0 := hl
    have hl : Lay n μ1 := hl.off hO la_62
    have hBE := hO.be (by omega)
    have hRE := hO.re (by decide) (by decide)
    obtain ⟨i, hi⟩ : ∃ i, i = ((k + 1 : Nat) : Int) - 1 := ⟨_, rfl⟩
    rw [← hi] at hT ⊢
    have e59 : μ1 59 i = μ 59 i := hO 59 i (by decide)
    have e40 : μ1 32 40 = μ 32 40 := hO 32 40 (by decide)
    have htall := pX7_tall n μ1 i c hl (hB.tr hBE) (hR.tr hBE hRE) (by omega) (by omega) hc0 (by rw [md_choices_tr hBE hRE]; exact hc1)
    rw [md_tall_tr hBE hRE] at htall
    refine aw_iload (q := 44) mX7_costs dX7_costs_42 rfl rfl ?_
    refine aw_if_lt (tgt := 229) (q := 47) mX7_costs dX7_costs_44 rfl (by decide) (fun c_44 => ?_) (fun c_44 => ?_)
    · exact absurd c_44 (by omega)
    · refine aw_aload_n (q := 48) mX7_costs dX7_costs_47 rfl rfl ?_
      refine aw_get (t := 2) (ji := 38) (q := 51) mX7_costs dX7_costs_48 rfl f7_102 rfl kd_32 rfl (ly_32_38 hl) ?_
      refine aw_iload (q := 53) mX7_costs dX7_costs_51 rfl rfl ?_
      refine aw_iald (q := 54) mX7_costs dX7_costs_53 rfl kd_59 (by omega) (by omega) e59 ?_
      refine aw_istore (q := 56) mX7_costs dX7_costs_54 rfl (by decide) rfl ?_
      refine aw_aload_n (q := 57) mX7_costs dX7_costs_56 rfl rfl ?_
      refine aw_iload (q := 59) mX7_costs dX7_costs_57 rfl rfl ?_
      refine aw_iload_n (q := 60) mX7_costs dX7_costs_59 rfl rfl ?_
      refine aw_v2 (ci := 7) (q := 63) mX7_costs dX7_costs_60 rfl l7_172 k118_114 rfl kd_32 rfl rfl rfl (htall) (kpure ?_)
      refine aw_istore (q := 65) mX7_costs dX7_costs_63 rfl (by decide) rfl ?_
      refine aw_ldc2 (q := 68) mX7_costs dX7_costs_65 rfl ld7_198 ?_
      refine aw_lstore (q := 70) mX7_costs dX7_costs_68 rfl (by decide) rfl ?_
      refine aw_sipush (q := 73) mX7_costs dX7_costs_70 rfl rfl ?_
      refine aw_istore (q := 75) mX7_costs dX7_costs_73 rfl (by decide) rfl ?_
      have h9 := pX7_costs_in n μ rest c i hl0 hB hR hL hc0 hc1 (by omega) (by omega) (PL n (fun x μ' => x = md_cost μ rest c ∧ Off 62 μ μ' ∧ Tb μ μ' c (-1))) (by
        intro μ2 b t w10 w11 w12 hO2 hT2
        refine aw_iinc (q := 226) mX7_costs dX7_costs_223 rfl rfl (by decide) (by omega) (by omega) rfl ?_
        refine aw_goto (q := 42) mX7_costs dX7_costs_226 (by decide) ?_
        have h8 := ih μ2 (0, μ 59 i) (0, md_tall μ i c) (1, b) (9, 0) (0, t) w10 w11 w12 (by omega) hO2 (by rw [show (k : Int) - 1 = i - 1 by omega]; exact hT2)
        rw [show (k : Int) - 1 = i + -1 by omega] at h8
        exact h8) 401 0 μ1 v10 v11 v12 (by decide) hO hT (fun t' h1 h2 => by omega)
      rw [show (400 : Int) - ((0 : Nat) : Int) = 400 by decide] at h9
      exact h9
theorem pX7_costs (n : Nat) (μ : am_M) (rest c : Int) (hl : Lay n μ) (hB : Bk μ) (hR : Rv μ) (hL : Lt μ) (hc0 : 0 ≤ c) (hc1 : c < md_choices μ) (hr0 : 0 ≤ rest) (hr1 : rest ≤ 400) : AC 118 [(2, 32), (0, rest), (0, c)] n μ (PL n (fun x μ' => x = md_cost μ rest c ∧ Off 62 μ μ' ∧ Tb μ μ' c (-1))) := by
  obtain ⟨r1, r2⟩ := id hR
  have hl0 := hl
  have F : ∀ (d : Nat) (t : Int) (μ1 : am_M) (v5 v6 v7 v8 v9 v10 v11 v12 : am_V), 0 ≤ t → t + d = 401 → Off 62 μ μ1 → AW none 118 7 [(2, 32), (0, rest), (0, c), (0, 401), (0, t), v5, v6, v7, v8, v9, v10, v11, v12] [] n μ1 (PL n (fun x μ' => x = md_cost μ rest c ∧ Off 62 μ μ' ∧ Tb μ μ' c (-1))) := by
    intro d
    induction d with
    | zero =>
      intro t μ1 v5 v6 v7 v8 v9 v10 v11 v12 h0 h1 hO
      have hl : Lay n μ1 := hl0.off hO la_62
      have e40 : μ1 32 40 = μ 32 40 := hO 32 40 (by decide)
      refine aw_iload (q := 9) mX7_costs dX7_costs_7 rfl rfl ?_
      refine aw_iload_n (q := 10) mX7_costs dX7_costs_9 rfl rfl ?_
      refine aw_icmp_ge (tgt := 34) (q := 13) mX7_costs dX7_costs_10 rfl (by decide) (fun c_10 => ?_) (fun c_10 => ?_)
      · refine aw_aload_n (q := 35) mX7_costs dX7_costs_34 rfl rfl ?_
        refine aw_get (t := 0) (ji := 40) (q := 38) mX7_costs dX7_costs_35 rfl f7_169 rfl kd_32 rfl e40 ?_
        refine aw_iconst (q := 39) mX7_costs dX7_costs_38 rfl rfl ?_
        refine aw_isub (q := 40) mX7_costs dX7_costs_39 rfl (by omega) (by omega) ?_
        refine aw_istore (q := 42) mX7_costs dX7_costs_40 rfl (by decide) rfl ?_
        have h9 := pX7_costs_out n μ rest c hl0 hB hR hL hc0 hc1 hr0 hr1 (μ 32 40).toNat μ1 v5 v6 v7 v8 v9 v10 v11 v12 (by omega) hO (fun i' t' h1 h2 => by omega)
        rw [show (((μ 32 40).toNat : Nat) : Int) = μ 32 40 by omega] at h9
        exact h9
      · exact absurd c_10 (by omega)
    | succ d ih =>
      intro t μ1 v5 v6 v7 v8 v9 v10 v11 v12 h0 h1 hO
      have hl : Lay n μ1 := hl0.off hO la_62
      have e40 : μ1 32 40 = μ 32 40 := hO 32 40 (by decide)
      refine aw_iload (q := 9) mX7_costs dX7_costs_7 rfl rfl ?_
      refine aw_iload_n (q := 10) mX7_costs dX7_costs_9 rfl rfl ?_
      refine aw_icmp_ge (tgt := 34) (q := 13) mX7_costs dX7_costs_10 rfl (by decide) (fun c_10 => ?_) (fun c_10 => ?_)
      · exact absurd c_10 (by omega)
      · refine aw_aload_n (q := 14) mX7_costs dX7_costs_13 rfl rfl ?_
        refine aw_get (t := 2) (ji := 43) (q := 17) mX7_costs dX7_costs_14 rfl f7_111 rfl kd_32 rfl (ly_32_43 hl) ?_
        refine aw_iload_n (q := 18) mX7_costs dX7_costs_17 rfl rfl ?_
        refine aw_aload_n (q := 19) mX7_costs dX7_costs_18 rfl rfl ?_
        refine aw_get (t := 0) (ji := 40) (q := 22) mX7_costs dX7_costs_19 rfl f7_169 rfl kd_32 rfl e40 ?_
        refine aw_imul (q := 23) mX7_costs dX7_costs_22 rfl (by omega) (by omega) ?_
        refine aw_iload (q := 25) mX7_costs dX7_costs_23 rfl rfl ?_
        refine aw_iadd (q := 26) mX7_costs dX7_costs_25 rfl (by omega) (by omega) ?_
        refine aw_lconst (x := 0) (q := 27) mX7_costs dX7_costs_26 rfl rfl ?_
        refine aw_last (q := 28) mX7_costs dX7_costs_27 rfl kd_62 (by omega) (by omega) (fun μ_27 e_27 => ?_)
        have hl : Lay n μ_27 := by rw [e_27]; exact Lay.setA la_62 hl
        refine aw_iinc (q := 31) mX7_costs dX7_costs_28 rfl rfl (by decide) (by omega) (by omega) rfl ?_
        refine aw_goto (q := 7) mX7_costs dX7_costs_31 (by decide) ?_
        exact ih (t + 1) μ_27 v5 v6 v7 v8 v9 v10 v11 v12 (by omega) (by omega) (by rw [e_27]; exact hO.set)
  refine AC.of rfl ?_
  refine aw_sipush (q := 3) mX7_costs dX7_costs_0 rfl rfl ?_
  refine aw_istore_n (q := 4) mX7_costs dX7_costs_3 rfl (by decide) rfl ?_
  refine aw_iconst (q := 5) mX7_costs dX7_costs_4 rfl rfl ?_
  refine aw_istore (q := 7) mX7_costs dX7_costs_5 rfl (by decide) rfl ?_
  exact F 401 0 μ _ _ _ _ _ _ _ _ (by decide) (by decide) Off.rf

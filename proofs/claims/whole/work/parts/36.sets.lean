/-! the reference: sets: the best of all sides and cuts -/
/-- v is the least of f below N, at b first; or all are NEVER -/
def FM (f : Int → Int) (N v b : Int) : Prop := (v = rw_NV ∧ ∀ x, 0 ≤ x → x < N → rw_NV ≤ f x) ∨ (v < rw_NV ∧ 0 ≤ b ∧ b < N ∧ f b = v ∧ (∀ x, 0 ≤ x → x < N → v ≤ f x) ∧ ∀ x, 0 ≤ x → x < b → v < f x)
theorem FM.zero {f : Int → Int} {b : Int} : FM f 0 rw_NV b := Or.inl ⟨rfl, fun x h0 h1 => by omega⟩
theorem FM.take {f : Int → Int} {N v b : Int} (h : FM f N v b) (h0 : 0 ≤ N) (hlt : f N < v) : FM f (N + 1) (f N) N := by
  have hv : v ≤ rw_NV := by rcases h with ⟨h1, -⟩ | ⟨h1, -⟩ <;> omega
  refine Or.inr ⟨by omega, h0, by omega, rfl, fun x x0 x1 => ?_, fun x x0 x1 => ?_⟩
  · by_cases e : x = N
    · rw [e]; exact Int.le_refl _
    · rcases h with ⟨h1, h2⟩ | ⟨-, -, -, -, h2, -⟩
      · have := h2 x x0 (by omega); omega
      · have := h2 x x0 (by omega); omega
  · rcases h with ⟨h1, h2⟩ | ⟨-, -, -, -, h2, -⟩
    · have := h2 x x0 x1; omega
    · have := h2 x x0 x1; omega
theorem FM.skip {f : Int → Int} {N v b : Int} (h : FM f N v b) (hge : ¬ f N < v) : FM f (N + 1) v b := by
  rcases h with ⟨h1, h2⟩ | ⟨h1, h2, h3, h4, h5, h6⟩
  · refine Or.inl ⟨h1, fun x x0 x1 => ?_⟩
    by_cases e : x = N
    · rw [e]; omega
    · exact h2 x x0 (by omega)
  · refine Or.inr ⟨h1, h2, by omega, h4, fun x x0 x1 => ?_, h6⟩
    by_cases e : x = N
    · rw [e]; omega
    · exact h5 x x0 (by omega)
theorem FM.uniq {f : Int → Int} {N v b v' b' : Int} (h : FM f N v b) (h' : FM f N v' b') : v = v' ∧ (v < rw_NV → b = b') := by
  rcases h with ⟨h1, h2⟩ | ⟨h1, h2, h3, h4, h5, h6⟩
  · rcases h' with ⟨k1, k2⟩ | ⟨k1, k2, k3, k4, k5, k6⟩
    · exact ⟨by omega, fun z => by omega⟩
    · have := h2 b' k2 k3; omega
  · rcases h' with ⟨k1, k2⟩ | ⟨k1, k2, k3, k4, k5, k6⟩
    · have := k2 b h2 h3; omega
    · have a1 := h5 b' k2 k3
      have a2 := k5 b h2 h3
      refine ⟨by omega, fun _ => ?_⟩
      rcases Int.lt_or_le b b' with q | q
      · have := k6 b h2 q; omega
      · rcases Int.lt_or_le b' b with r | r
        · have := h6 b' k2 r; omega
        · omega
/-- a side's cost by the choice of its end -/
def mr_cost (μ : am_M) (rest : Int) (rw : List Int) (c : Int) : Int := if rw ≠ [] ∧ 400 < md_top0 μ rest then rw_NV else if rw_NV ≤ rw_D (μ 32 2) (μ 32 3) (mr_its μ c rw) (md_top0 μ rest) then rw_NV else rw_D (μ 32 2) (μ 32 3) (mr_its μ c rw) (md_top0 μ rest) + if 0 < c then μ 32 4 else 0
theorem md_cost_mr {μ μ1 : am_M} {rest c : Int} {rw : List Int} (hBE : BE μ μ1) (h49 : ∀ j, μ1 49 j = μ 49 j) (hA : Ar μ1 59 rw) (hn : μ1 32 40 = (rw.length : Int)) : md_cost μ1 rest c = mr_cost μ rest rw c := by
  unfold md_cost mr_cost
  rw [mr_its_eq0 hA hn, mr_its_tr hBE h49, md_top0_tr hBE, hBE.1 2 (by decide) (by decide), hBE.1 3 (by decide) (by decide), hBE.1 4 (by decide) (by decide)]
  have e : (0 < μ1 32 40) ↔ rw ≠ [] := by
    rw [hn]
    cases rw with
    | nil => simp
    | cons a b => simp
  simp only [e]
/-- what the work on a page may change, its notes being gathered -/
def Sx (a j : Int) : Prop := a = 57 ∨ a = 59 ∨ a = 60 ∨ a = 61 ∨ a = 62 ∨ (a = 32 ∧ j = 40)
theorem Sx_Sw : ∀ a j, Sx a j → Sw a j := fun a j h => by unfold Sx at h; unfold Sw; omega
theorem am_cmp_lt {a b : Int} : am_cmp a b < 0 ↔ a < b := by
  unfold am_cmp
  constructor
  · intro h
    split at h
    · exact absurd h (by decide)
    · split at h
      · exact absurd h (by decide)
      · omega
  · intro h
    rw [if_neg (by omega), if_neg (by omega)]
    decide
theorem am_cmp_ge {a b : Int} : 0 ≤ am_cmp a b ↔ b ≤ a := by
  have := am_cmp_lt (a := a) (b := b)
  omega
theorem md_cost_b {μ : am_M} (hB : Bk μ) (hR : Rv μ) (hL : Lt μ) {rest c : Int} (hc0 : 0 ≤ c) (hc1 : c < md_choices μ) (hr0 : 0 ≤ rest) : 0 ≤ md_cost μ rest c ∧ md_cost μ rest c ≤ rw_NV := by
  have hNV : rw_NV = 1000000000000 := rfl
  obtain ⟨b1, b2, b3, -⟩ := id hB
  have r1 := hR.1
  have ht0 : 0 ≤ md_top0 μ rest := by unfold md_top0; split <;> omega
  unfold md_cost
  split
  · omega
  · rename_i hn
    split
    · omega
    · rename_i hlt
      have hsb : 0 ≤ rw_D (μ 32 2) (μ 32 3) (md_its μ c 0 (μ 32 40).toNat) (md_top0 μ rest) ∧ rw_D (μ 32 2) (μ 32 3) (md_its μ c 0 (μ 32 40).toNat) (md_top0 μ rest) ≤ 192000 := by
        by_cases hz : md_top0 μ rest ≤ 401
        · have h9 := rw_D_b (h := μ 32 2) b2.1 (md_its_ok hB hR hL hc0 hc1 (μ 32 40).toNat 0 (by omega) (by omega)) ht0 hz (by omega)
          rw [md_its_len] at h9
          omega
        · have h9 : (μ 32 40).toNat = 0 := by omega
          rw [h9]
          show 0 ≤ (0 : Int) ∧ (0 : Int) ≤ 192000
          decide
      split <;> omega
/-- the loop over the ends of one side's row -/
theorem pX7_sets_c (n : Nat) (μ : am_M) (p ei best bb bits sum s rest : Int) (rw : List Int) (hl0 : Lay n μ) (hB : Bk μ) (hp0 : 0 ≤ p) (hp1 : p ≤ 139) (hs : s = 0 ∨ s = 1) (hrl : rw.length ≤ 24) (hv : ∀ k ∈ rw, 0 ≤ k ∧ k < μ 32 8) (hlt : ∀ k ∈ rw, 0 ≤ μ 49 (μ 34 k) ∧ μ 49 (μ 34 k) ≤ 400) (hrest : μ 47 (2 * p + s) = rest) (hr0 : 0 ≤ rest) (hr1 : rest ≤ 400) (Q : Option am_V → Nat → am_M → Prop) (μ0 : am_M)
    (kk : ∀ (μ2 : am_M) (l1 c : Int) (v14 v15 : am_V), Of Sx μ μ2 → (∀ j, μ2 57 j = μ0 57 j) → (∀ j, μ2 61 j = μ0 61 j) → (∀ j, j ≠ s → μ2 60 j = μ0 60 j) → FM (mr_cost μ rest rw) (mr_ch μ rw) l1 (μ2 60 s) → 0 ≤ l1 → l1 ≤ rw_NV → AW none 120 130 [(2, 32), (0, p), (0, ei), (1, best), (9, 0), (0, bb), (0, bits), (1, sum), (9, 0), (0, s), (1, l1), (9, 0), (0, mr_ch μ rw), (0, c), v14, v15] [] n μ2 Q) :
    ∀ (d : Nat) (c l1 : Int) (μ1 : am_M) (v14 v15 : am_V), 0 ≤ c → c + d = mr_ch μ rw → Of Sx μ μ1 → (∀ j, μ1 57 j = μ0 57 j) → (∀ j, μ1 61 j = μ0 61 j) → (∀ j, j ≠ s → μ1 60 j = μ0 60 j) → Ar μ1 59 rw → μ1 32 40 = (rw.length : Int) → FM (mr_cost μ rest rw) c l1 (μ1 60 s) → 0 ≤ l1 → l1 ≤ rw_NV → AW none 120 74 [(2, 32), (0, p), (0, ei), (1, best), (9, 0), (0, bb), (0, bits), (1, sum), (9, 0), (0, s), (1, l1), (9, 0), (0, mr_ch μ rw), (0, c), v14, v15] [] n μ1 Q := by
  obtain ⟨b1, b2, b3, b4, b5, b6, b7, b8, b9⟩ := id hB
  intro d
  induction d with
  | zero =>
    intro c l1 μ1 v14 v15 hc0 hcd hO h57 h61 h60 hA hn hF hl0' hl1'
    refine aw_iload (q := 76) mX7_sets dX7_sets_74 rfl rfl ?_
    refine aw_iload (q := 78) mX7_sets dX7_sets_76 rfl rfl ?_
    refine aw_icmp_ge (tgt := 130) (q := 81) mX7_sets dX7_sets_78 rfl (by decide) (fun c_78 => ?_) (fun c_78 => ?_)
    · rw [show c = mr_ch μ rw by omega] at hF ⊢
      exact kk μ1 l1 _ _ _ hO h57 h61 h60 hF hl0' hl1'
    · exact absurd c_78 (by omega)
  | succ d ih =>
    intro c l1 μ1 v14 v15 hc0 hcd hO h57 h61 h60 hA hn hF hl0' hl1'
    have hl : Lay n μ1 := hl0.ofW (hO.mono Sx_Sw)
    have hBE : BE μ μ1 := (hO.mono Sx_Sw).beW
    have h49 : ∀ j, μ1 49 j = μ 49 j := fun j => hO 49 j (by unfold Sx; omega)
    have hB1 := hB.tr hBE
    have hR1 : Rv μ1 := Rv.of hA hn hrl (fun k hk => by rw [hBE.1 8 (by decide) (by decide)]; exact hv k hk)
    have hL1 : Lt μ1 := Lt.of hA hn (fun k hk => by rw [h49, hBE.2 34 _ (by decide) (by decide)]; exact hlt k hk)
    have hch : md_choices μ1 = mr_ch μ rw := by rw [mr_ch_eq hA hn, mr_ch_tr hBE]
    have e47 : μ1 47 (2 * p + s) = rest := (hO 47 _ (by unfold Sx; omega)).trans hrest
    have hch4 : mr_ch μ rw ≤ 4 := by
      rw [← hch]
      unfold md_choices
      split
      · omega
      · have h1 := hR1.2 (μ1 32 40 - 1) (by have := hR1.1; omega) (by omega)
        obtain ⟨-, -, -, -, -, -, -, n8, -⟩ := hB1.2.2.2.2.2.2.2.2 _ h1.1 h1.2
        split <;> omega
    refine aw_iload (q := 76) mX7_sets dX7_sets_74 rfl rfl ?_
    refine aw_iload (q := 78) mX7_sets dX7_sets_76 rfl rfl ?_
    refine aw_icmp_ge (tgt := 130) (q := 81) mX7_sets dX7_sets_78 rfl (by decide) (fun c_78 => ?_) (fun c_78 => ?_)
    · exact absurd c_78 (by omega)
    · refine aw_aload_n (q := 82) mX7_sets dX7_sets_81 rfl rfl ?_
      refine aw_aload_n (q := 83) mX7_sets dX7_sets_82 rfl rfl ?_
      refine aw_get (t := 2) (ji := 26) (q := 86) mX7_sets dX7_sets_83 rfl f7_65 rfl kd_32 rfl (ly_32_26 hl) ?_
      refine aw_iconst (q := 87) mX7_sets dX7_sets_86 rfl rfl ?_
      refine aw_iload_n (q := 88) mX7_sets dX7_sets_87 rfl rfl ?_
      refine aw_imul (q := 89) mX7_sets dX7_sets_88 rfl (by omega) (by omega) ?_
      refine aw_iload (q := 91) mX7_sets dX7_sets_89 rfl rfl ?_
      refine aw_iadd (q := 92) mX7_sets dX7_sets_91 rfl (by omega) (by omega) ?_
      refine aw_iald (q := 93) mX7_sets dX7_sets_92 rfl kd_47 (by omega) (by omega) e47 ?_
      refine aw_iload (q := 95) mX7_sets dX7_sets_93 rfl rfl ?_
      refine aw_v2 (ci := 7) (q := 98) mX7_sets dX7_sets_95 rfl l7_213 k120_118 rfl kd_32 rfl rfl rfl (pX7_costs n μ1 rest c hl hB1 hR1 hL1 hc0 (by rw [hch]; omega) hr0 hr1) (klong (fun x μ2 hx => ?_))
      obtain ⟨hxv, hO2, -⟩ := hx
      have hxb := md_cost_b hB1 hR1 hL1 (rest := rest) hc0 (by rw [hch]; omega) hr0
      rw [← hxv] at hxb
      rw [md_cost_mr hBE h49 hA hn] at hxv
      have hO2' : Of Sx μ μ2 := fun a j hs => (hO2 a j (fun z => hs (by unfold Sx; omega))).trans (hO a j hs)
      have hl : Lay n μ2 := hl0.ofW (hO2'.mono Sx_Sw)
      have hA2 : Ar μ2 59 rw := hA.to (fun j => hO2 59 j (by decide))
      have hn2 : μ2 32 40 = (rw.length : Int) := (hO2 32 40 (by decide)).trans hn
      have e60 : μ2 60 s = μ1 60 s := hO2 60 s (by decide)
      refine aw_lstore (q := 100) mX7_sets dX7_sets_98 rfl (by decide) rfl ?_
      refine aw_lload (q := 102) mX7_sets dX7_sets_100 rfl rfl ?_
      refine aw_lload (q := 104) mX7_sets dX7_sets_102 rfl rfl ?_
      refine aw_lcmp (q := 105) mX7_sets dX7_sets_104 rfl ?_
      refine aw_if_lt (tgt := 111) (q := 108) mX7_sets dX7_sets_105 rfl (by decide) (fun c_105 => ?_) (fun c_105 => ?_)
      · have hlt2 : x < l1 := am_cmp_lt.mp c_105
        refine aw_lload (q := 113) mX7_sets dX7_sets_111 rfl rfl ?_
        refine aw_lstore (q := 115) mX7_sets dX7_sets_113 rfl (by decide) rfl ?_
        refine aw_aload_n (q := 116) mX7_sets dX7_sets_115 rfl rfl ?_
        refine aw_get (t := 2) (ji := 41) (q := 119) mX7_sets dX7_sets_116 rfl f7_105 rfl kd_32 rfl (ly_32_41 hl) ?_
        refine aw_iload (q := 121) mX7_sets dX7_sets_119 rfl rfl ?_
        refine aw_iload (q := 123) mX7_sets dX7_sets_121 rfl rfl ?_
        refine aw_iast (q := 124) mX7_sets dX7_sets_123 rfl kd_60 (by omega) (by omega) (fun μ_123 e_123 => ?_)
        have hl : Lay n μ_123 := by rw [e_123]; exact Lay.setA la_60 hl
        refine aw_iinc (q := 127) mX7_sets dX7_sets_124 rfl rfl (by decide) (by omega) (by omega) rfl ?_
        refine aw_goto (q := 74) mX7_sets dX7_sets_127 (by decide) ?_
        have hF2 := hF.take hc0 (by rw [← hxv]; exact hlt2)
        rw [← hxv] at hF2
        have h9 := ih (c + 1) x μ_123 (1, x) (9, 0) (by omega) (by omega) (by rw [e_123]; exact hO2'.set (by unfold Sx; omega)) (fun j => by rw [e_123, am_sn (Or.inl (by decide)), hO2 57 j (by decide)]; exact h57 j) (fun j => by rw [e_123, am_sn (Or.inl (by decide)), hO2 61 j (by decide)]; exact h61 j) (fun j hj => by rw [e_123, am_sn (Or.inr hj), hO2 60 j (by decide)]; exact h60 j hj) (hA2.to (fun j => by rw [e_123, am_sn (Or.inl (by decide))])) (by rw [e_123, am_sn (Or.inl (by decide))]; exact hn2) (by rw [e_123, am_ss]; exact hF2) hxb.1 hxb.2
        exact h9
      · have hge : ¬ x < l1 := fun z => c_105 (am_cmp_lt.mpr z)
        refine aw_goto (q := 124) mX7_sets dX7_sets_108 (by decide) ?_
        refine aw_iinc (q := 127) mX7_sets dX7_sets_124 rfl rfl (by decide) (by omega) (by omega) rfl ?_
        refine aw_goto (q := 74) mX7_sets dX7_sets_127 (by decide) ?_
        exact ih (c + 1) l1 μ2 (1, x) (9, 0) (by omega) (by omega) hO2' (fun j => by rw [hO2 57 j (by decide)]; exact h57 j) (fun j => by rw [hO2 61 j (by decide)]; exact h61 j) (fun j hj => by rw [hO2 60 j (by decide)]; exact h60 j hj) hA2 hn2 (by rw [e60]; exact hF.skip (by rw [← hxv]; exact hge)) hl0' hl1'
/-- one side of one dealing -/
theorem pX7_sets_s (n : Nat) (μ : am_M) (p ei best bb bits sum s rest : Int) (H Sd : List Int) (hl0 : Lay n μ) (hB : Bk μ) (hp0 : 0 ≤ p) (hp1 : p ≤ 139) (hs : s = 0 ∨ s = 1) (hA : Ar μ 56 H) (hn : μ 32 39 = (H.length : Int)) (hlen : Sd.length = H.length) (hH : H.length ≤ 24) (hv : ∀ k ∈ H, 0 ≤ k ∧ k < μ 32 8) (hlt : ∀ k ∈ H, 0 ≤ μ 49 (μ 34 k) ∧ μ 49 (μ 34 k) ≤ 400) (hrest : μ 47 (2 * p + s) = rest) (hr0 : 0 ≤ rest) (hr1 : rest ≤ 400) (hs0 : 0 ≤ sum) (hs1 : sum ≤ rw_NV) (Q : Option am_V → Nat → am_M → Prop) (μ1 : am_M) (v10 v11 v12 v13 v14 v15 : am_V) (hO : Of Sx μ μ1) (hS : Ar μ1 57 Sd)
    (kk : ∀ (μ2 : am_M) (l1 : Int) (w10 w11 w12 w13 w14 w15 : am_V), Of Sx μ μ2 → Ar μ2 57 Sd → (∀ j, μ2 61 j = μ1 61 j) → (∀ j, j ≠ s → μ2 60 j = μ1 60 j) → FM (mr_cost μ rest (md_ro s H Sd)) (mr_ch μ (md_ro s H Sd)) l1 (μ2 60 s) → 0 ≤ l1 → l1 ≤ rw_NV → AW none 120 48 [(2, 32), (0, p), (0, ei), (1, best), (9, 0), (0, bb), (0, bits), (1, if rw_NV ≤ l1 ∨ rw_NV ≤ sum then rw_NV else sum + l1), (9, 0), (0, s + 1), w10, w11, w12, w13, w14, w15] [] n μ2 Q) :
    AW none 120 48 [(2, 32), (0, p), (0, ei), (1, best), (9, 0), (0, bb), (0, bits), (1, sum), (9, 0), (0, s), v10, v11, v12, v13, v14, v15] [] n μ1 Q := by
  have hNV : rw_NV = 1000000000000 := rfl
  have hl : Lay n μ1 := hl0.ofW (hO.mono Sx_Sw)
  have hl1 := hl
  have hA1 : Ar μ1 56 H := hA.to (fun j => hO 56 j (by unfold Sx; omega))
  have hn1 : μ1 32 39 = (H.length : Int) := (hO 32 39 (by unfold Sx; omega)).trans hn
  refine aw_iload (q := 50) mX7_sets dX7_sets_48 rfl rfl ?_
  refine aw_iconst (q := 51) mX7_sets dX7_sets_50 rfl rfl ?_
  refine aw_icmp_ge (tgt := 167) (q := 54) mX7_sets dX7_sets_51 rfl (by decide) (fun c_51 => ?_) (fun c_51 => ?_)
  · exact absurd c_51 (by omega)
  · refine aw_aload_n (q := 55) mX7_sets dX7_sets_54 rfl rfl ?_
    refine aw_iload (q := 57) mX7_sets dX7_sets_55 rfl rfl ?_
    refine aw_v1 (ci := 7) (q := 60) mX7_sets dX7_sets_57 rfl l7_187 k120_112 rfl kd_32 rfl rfl rfl (pX7_rowOf n μ1 s H Sd hl1 hA1 hS hn1 hlen hH) (kvoid (fun μr hq => ?_))
    obtain ⟨hOr, hAr, hnr⟩ := hq
    obtain ⟨rw, hrw⟩ : ∃ r, r = md_ro s H Sd := ⟨_, rfl⟩
    rw [← hrw] at hAr hnr kk
    have hO2 : Of Sx μ μr := fun a j hs => (hOr a j (fun z => hs (by unfold Sr at z; unfold Sx; omega))).trans (hO a j hs)
    have hl : Lay n μr := hl0.ofW (hO2.mono Sx_Sw)
    have hBE : BE μ μr := (hO2.mono Sx_Sw).beW
    have hrl : rw.length ≤ 24 := by rw [hrw]; exact Nat.le_trans md_ro_le hH
    have hrm : ∀ k ∈ rw, k ∈ H := fun k hk => by rw [hrw] at hk; exact md_ro_mem hk
    have hRr : Rv μr := Rv.of hAr hnr hrl (fun k hk => by rw [hBE.1 8 (by decide) (by decide)]; exact hv k (hrm k hk))
    have hch : md_choices μr = mr_ch μ rw := by rw [mr_ch_eq hAr hnr, mr_ch_tr hBE]
    have hcc := pX7_choices n μr hl (hB.tr hBE) hRr
    rw [hch] at hcc
    have hch0 : 0 ≤ mr_ch μ rw := by
      rw [← hch]
      unfold md_choices
      split
      · omega
      · have h1 := hRr.2 (μr 32 40 - 1) (by have := hRr.1; omega) (by omega)
        obtain ⟨-, -, -, -, -, -, -, n8, -⟩ := (hB.tr hBE).2.2.2.2.2.2.2.2 _ h1.1 h1.2
        split <;> omega
    refine aw_ldc2 (q := 63) mX7_sets dX7_sets_60 rfl ld7_198 ?_
    refine aw_lstore (q := 65) mX7_sets dX7_sets_63 rfl (by decide) rfl ?_
    refine aw_aload_n (q := 66) mX7_sets dX7_sets_65 rfl rfl ?_
    refine aw_v0 (ci := 7) (q := 69) mX7_sets dX7_sets_66 rfl l7_191 k120_113 rfl kd_32 rfl rfl rfl (hcc) (kpure ?_)
    refine aw_istore (q := 71) mX7_sets dX7_sets_69 rfl (by decide) rfl ?_
    refine aw_iconst (q := 72) mX7_sets dX7_sets_71 rfl rfl ?_
    refine aw_istore (q := 74) mX7_sets dX7_sets_72 rfl (by decide) rfl ?_
    refine pX7_sets_c n μ p ei best bb bits sum s rest rw hl0 hB hp0 hp1 hs hrl (fun k hk => hv k (hrm k hk)) (fun k hk => hlt k (hrm k hk)) hrest hr0 hr1 Q μr ?_ (mr_ch μ rw).toNat 0 1000000000000 μr v14 v15 (by decide) (by omega) hO2 (fun _ => rfl) (fun _ => rfl) (fun _ _ => rfl) hAr hnr FM.zero (by decide) (Int.le_refl _)
    intro μ2 l1 c w14 w15 hO3 h57 h61 h60 hF hl0' hl1'
    have K : ∀ z, z = (if rw_NV ≤ l1 ∨ rw_NV ≤ sum then rw_NV else sum + l1) → AW none 120 159 [(2, 32), (0, p), (0, ei), (1, best), (9, 0), (0, bb), (0, bits), (1, sum), (9, 0), (0, s), (1, l1), (9, 0), (0, mr_ch μ rw), (0, c), w14, w15] [(1, z)] n μ2 Q := by
      intro z hz
      refine aw_lstore (q := 161) mX7_sets dX7_sets_159 rfl (by decide) rfl ?_
      refine aw_iinc (q := 164) mX7_sets dX7_sets_161 rfl rfl (by decide) (by omega) (by omega) rfl ?_
      refine aw_goto (q := 48) mX7_sets dX7_sets_164 (by decide) ?_
      have h9 := kk μ2 l1 (1, l1) (9, 0) (0, mr_ch μ rw) (0, c) w14 w15 hO3 (hS.to (fun j => by rw [h57, hOr 57 j (by unfold Sr; omega)])) (fun j => by rw [h61, hOr 61 j (by unfold Sr; omega)]) (fun j hj => by rw [h60 j hj, hOr 60 j (by unfold Sr; omega)]) hF hl0' hl1'
      rw [← hz] at h9
      exact h9
    refine aw_lload (q := 132) mX7_sets dX7_sets_130 rfl rfl ?_
    refine aw_ldc2 (q := 135) mX7_sets dX7_sets_132 rfl ld7_198 ?_
    refine aw_lcmp (q := 136) mX7_sets dX7_sets_135 rfl ?_
    refine aw_if_ge (tgt := 148) (q := 139) mX7_sets dX7_sets_136 rfl (by decide) (fun c_136 => ?_) (fun c_136 => ?_)
    · have h1 : rw_NV ≤ l1 := am_cmp_ge.mp c_136
      refine aw_ldc2 (q := 151) mX7_sets dX7_sets_148 rfl ld7_198 ?_
      refine aw_goto (q := 159) mX7_sets dX7_sets_151 (by decide) ?_
      exact K _ (by rw [if_pos (Or.inl h1)]; rfl)
    · have h1 : l1 < rw_NV := by have := mt am_cmp_ge.mpr c_136; omega
      refine aw_lload (q := 141) mX7_sets dX7_sets_139 rfl rfl ?_
      refine aw_ldc2 (q := 144) mX7_sets dX7_sets_141 rfl ld7_198 ?_
      refine aw_lcmp (q := 145) mX7_sets dX7_sets_144 rfl ?_
      refine aw_if_lt (tgt := 154) (q := 148) mX7_sets dX7_sets_145 rfl (by decide) (fun c_145 => ?_) (fun c_145 => ?_)
      · have h2 : sum < rw_NV := am_cmp_lt.mp c_145
        refine aw_lload (q := 156) mX7_sets dX7_sets_154 rfl rfl ?_
        refine aw_lload (q := 158) mX7_sets dX7_sets_156 rfl rfl ?_
        refine aw_ladd (q := 159) mX7_sets dX7_sets_158 rfl (by omega) (by omega) ?_
        exact K _ (by rw [if_neg (by omega)])
      · have h2 : rw_NV ≤ sum := by have := mt am_cmp_lt.mpr c_145; omega
        refine aw_ldc2 (q := 151) mX7_sets dX7_sets_148 rfl ld7_198 ?_
        refine aw_goto (q := 159) mX7_sets dX7_sets_151 (by decide) ?_
        exact K _ (by rw [if_pos (Or.inr h2)]; rfl)

def Sp (p s : Int) (rw : List Int) (a j : Int) : Prop := a = 62 ∨ (a = 47 ∧ j = 2 * p + 2 + s) ∨ (51 ≤ a ∧ a ≤ 55 ∧ j ∈ rw)
theorem Sp_Sw {p s : Int} {rw : List Int} : ∀ a j, Sp p s rw a j → Sw a j := fun a j h => by unfold Sp at h; unfold Sw; omega
/-- what places has written of the first notes of the row -/
def Pr (μ μ2 : am_M) (p s c : Int) (pre out : List Int) : Prop := ∀ (i : Nat) (k x : Int), pre[i]? = some k → out[i]? = some x → μ2 51 k = s ∧ μ2 52 k = x ∧ μ2 53 k = md_tall μ (i : Int) c ∧ μ2 54 k = μ 35 k + μ 40 k - md_tall μ (i : Int) c ∧ μ2 55 k = p
/-- what the row carries: the rest of its last one -/
def md_carry (μ : am_M) (c : Int) (rw : List Int) : Int := match rw.getLast? with
  | none => 0
  | some k => μ 35 k + μ 40 k - md_tall μ ((rw.length : Int) - 1) c
theorem md_tall_full {μ : am_M} {i c : Int} (h : i < μ 32 40 - 1) : md_tall μ i c = μ 35 (μ 59 i) + μ 40 (μ 59 i) := by unfold md_tall; rw [if_pos (Or.inr h)]
theorem md_tall_le {μ : am_M} (hB : Bk μ) (hR : Rv μ) {i c : Int} (hi0 : 0 ≤ i) (hi1 : i < μ 32 40) (hc0 : 0 ≤ c) (hc1 : c < md_choices μ) : md_tall μ i c ≤ μ 35 (μ 59 i) + μ 40 (μ 59 i) := by
  obtain ⟨r1, r2⟩ := hR
  obtain ⟨-, -, -, -, -, -, b7, -, b9⟩ := hB
  have h1 := r2 i hi0 hi1
  obtain ⟨-, n2, n3, n4, n5, n6, n7, n8, n9, n10, n11, -⟩ := b9 _ h1.1 h1.2
  unfold md_tall
  split
  · omega
  · split
    · omega
    · unfold md_choices at hc1
      have e : i = μ 32 40 - 1 := by omega
      rw [if_neg (by omega), ← e] at hc1
      have h2 : c - 1 < μ 41 (μ 59 i) := by
        split at hc1 <;> omega
      have := n11 (c - 1) (by omega) h2
      rw [show 3 * μ 59 i + (c - 1) = 3 * μ 59 i + c - 1 by omega] at this
      omega
theorem pX7_places_loop (n : Nat) (μ μc : am_M) (p s c : Int) (rw : List Int) (hl0 : Lay n μ) (hB : Bk μ) (hR : Rv μ) (hL : Lt μ) (hA : Ar μ 59 rw) (hn : μ 32 40 = (rw.length : Int)) (hnd : rw.Nodup) (hc0 : 0 ≤ c) (hc1 : c < md_choices μ) (hp0 : 0 ≤ p) (hp1 : p ≤ 139) (hs : s = 0 ∨ s = 1) (hTc : Tb μ μc c (-1)) :
    ∀ (suf pre out : List Int) (top : Int) (μ2 : am_M) (v7 v8 v9 v10 : am_V), rw = pre ++ suf → out.length = pre.length → 0 ≤ top → (suf ≠ [] → top ≤ 400 ∧ rw_D (μ 32 2) (μ 32 3) (md_its μ c (pre.length : Int) suf.length) top < rw_NV) → Of (Sp p s rw) μ μ2 → (∀ j, μ2 62 j = μc 62 j) → Pr μ μ2 p s c pre out → μ2 47 (2 * p + 2 + s) = (if suf = [] then md_carry μ c rw else 0) → top ≤ 1000 →
      AW none 121 83 [(2, 32), (0, p), (0, s), (0, c), (0, 401), (0, top), (0, (pre.length : Int)), v7, v8, v9, v10] [] n μ2 (PV n (fun μ' => Of (Sp p s rw) μ μ' ∧ μ' 47 (2 * p + 2 + s) = md_carry μ c rw ∧ ∃ xs, rw_gr (μ 32 2) (μ 32 3) top (md_its μ c (pre.length : Int) suf.length) xs ∧ Pr μ μ' p s c rw (out ++ xs))) := by
  obtain ⟨r1, r2⟩ := id hR
  obtain ⟨b1, b2, b3, b4, b5, b6, b7, b8, b9⟩ := id hB
  have hNV : rw_NV = 1000000000000 := rfl
  intro suf
  induction suf with
  | nil =>
    intro pre out top μ2 v7 v8 v9 v10 hp ho ht0 hD hO h62 hPr hcar ht1
    have hl : Lay n μ2 := hl0.ofW (hO.mono Sp_Sw)
    have e40 : μ2 32 40 = μ 32 40 := hO 32 40 (by unfold Sp; omega)
    have hpl : rw = pre := by rw [hp]; simp
    have hpl2 : rw.length = pre.length := by rw [← hpl]
    refine aw_iload (q := 85) mX7_places dX7_places_83 rfl rfl ?_
    refine aw_aload_n (q := 86) mX7_places dX7_places_85 rfl rfl ?_
    refine aw_get (t := 0) (ji := 40) (q := 89) mX7_places dX7_places_86 rfl f7_169 rfl kd_32 rfl e40 ?_
    refine aw_icmp_ge (tgt := 252) (q := 92) mX7_places dX7_places_89 rfl (by decide) (fun c_89 => ?_) (fun c_89 => ?_)
    · refine aw_vret mX7_places dX7_places_252 ?_
      rw [if_pos rfl] at hcar
      refine ⟨rfl, rfl, hO, hcar, [], trivial, ?_⟩
      rw [List.append_nil, hpl]
      exact hPr
    · exact absurd c_89 (by omega)
  | cons k suf ih =>
    intro pre out top μ2 v7 v8 v9 v10 hp ho ht0 hD hO h62 hPr hcar ht1
    obtain ⟨hD1, hD2⟩ := hD (by simp)
    have hl : Lay n μ2 := hl0.ofW (hO.mono Sp_Sw)
    have hBE := (hO.mono Sp_Sw).beW
    have e40 : μ2 32 40 = μ 32 40 := hO 32 40 (by unfold Sp; omega)
    have hRE : RE μ μ2 := ⟨e40, fun i => hO 59 i (by unfold Sp; omega)⟩
    have h49 : ∀ j, μ2 49 j = μ 49 j := fun j => hO 49 j (by unfold Sp; omega)
    obtain ⟨i, hi⟩ : ∃ i, i = (pre.length : Int) := ⟨_, rfl⟩
    have hpl : rw.length = pre.length + suf.length + 1 := by rw [hp]; simp; omega
    have hi0 : 0 ≤ i := by omega
    have hi1 : i < μ 32 40 := by omega
    have hk : μ 59 i = k := by rw [hi]; exact Ar.mid (by rw [← hp]; exact hA)
    have e59 : μ2 59 i = k := (hRE.2 i).trans hk
    have hkr := r2 i hi0 hi1
    rw [hk] at hkr
    have hN := b9 k hkr.1 hkr.2
    obtain ⟨n1, n2, n3, n4, n5, n6, n7, n8, n9, -⟩ := id hN
    have hkm : k ∈ rw := by rw [hp]; simp
    have hT : Tb μ μ2 c (-1) := fun i' t' h1 h2 h3 h4 => by rw [h62]; exact hTc i' t' h1 h2 h3 h4
    have hits : md_its μ c i (suf.length + 1) = md_it μ c i :: md_its μ c (i + 1) suf.length := rfl
    have hRk : md_R μ c i = md_its μ c (i + 1) suf.length := by unfold md_R; rw [show (μ 32 40 - i - 1).toNat = suf.length by omega]
    have hD2 : rw_D (μ 32 2) (μ 32 3) (md_it μ c i :: md_R μ c i) top < rw_NV := by rw [hRk, ← hits, hi]; exact hD2
    obtain ⟨x0, x1, x2, x3, x4, x5⟩ := rw_b_at hD2 (by omega)
    have hta : 0 ≤ md_tall μ i c := x3.1
    have hb := md_tall_b hB hR hi0 hi1 hc0 hc1
    have htl := md_tall_le hB hR hi0 hi1 hc0 hc1
    rw [hk] at htl
    obtain ⟨D, hDe⟩ : ∃ D, D = rw_D (μ 32 2) (μ 32 3) (md_it μ c i :: md_R μ c i) top := ⟨_, rfl⟩
    have hx0 : md_at μ c i x0 D := ⟨⟨x3.2.1, x3.2.2⟩, x4, by rw [hDe, rw_D_cons]; exact x5.symm⟩
    have h62v : μ2 62 (401 * i + top) = D := by
      rw [hT i top (by omega) hi1 ht0 hD1, md_its_succ hi0 hi1, hDe]
    have htallc := pX7_tall n
    rw [← hi]
    refine aw_iload (q := 85) mX7_places dX7_places_83 rfl rfl ?_
    refine aw_aload_n (q := 86) mX7_places dX7_places_85 rfl rfl ?_
    refine aw_get (t := 0) (ji := 40) (q := 89) mX7_places dX7_places_86 rfl f7_169 rfl kd_32 rfl e40 ?_
    refine aw_icmp_ge (tgt := 252) (q := 92) mX7_places dX7_places_89 rfl (by decide) (fun c_89 => ?_) (fun c_89 => ?_)
    · exact absurd c_89 (by omega)
    · refine aw_aload_n (q := 93) mX7_places dX7_places_92 rfl rfl ?_
      refine aw_get (t := 2) (ji := 38) (q := 96) mX7_places dX7_places_93 rfl f7_102 rfl kd_32 rfl (ly_32_38 hl) ?_
      refine aw_iload (q := 98) mX7_places dX7_places_96 rfl rfl ?_
      refine aw_iald (q := 99) mX7_places dX7_places_98 rfl kd_59 (by omega) (by omega) e59 ?_
      refine aw_istore (q := 101) mX7_places dX7_places_99 rfl (by decide) rfl ?_
      refine aw_aload_n (q := 102) mX7_places dX7_places_101 rfl rfl ?_
      refine aw_get (t := 2) (ji := 43) (q := 105) mX7_places dX7_places_102 rfl f7_111 rfl kd_32 rfl (ly_32_43 hl) ?_
      refine aw_iload (q := 107) mX7_places dX7_places_105 rfl rfl ?_
      refine aw_iload (q := 109) mX7_places dX7_places_107 rfl rfl ?_
      refine aw_imul (q := 110) mX7_places dX7_places_109 rfl (by omega) (by omega) ?_
      refine aw_iload (q := 112) mX7_places dX7_places_110 rfl rfl ?_
      refine aw_iadd (q := 113) mX7_places dX7_places_112 rfl (by omega) (by omega) ?_
      refine aw_lald (q := 114) mX7_places dX7_places_113 rfl kd_62 (by omega) (by omega) h62v ?_
      refine aw_lstore (q := 116) mX7_places dX7_places_114 rfl (by decide) rfl ?_
      refine aw_iload (q := 118) mX7_places dX7_places_116 rfl rfl ?_
      refine aw_istore (q := 120) mX7_places dX7_places_118 rfl (by decide) rfl ?_
      -- the search for the place
      have G : ∀ (d : Nat) (t : Int), top ≤ t → t + d = x0 → (∀ y, top ≤ y → y < t → ¬ md_at μ c i y D) → AW none 121 120 [(2, 32), (0, p), (0, s), (0, c), (0, 401), (0, top), (0, i), (0, k), (1, D), (9, 0), (0, t)] [] n μ2 (PV n (fun μ' => Of (Sp p s rw) μ μ' ∧ μ' 47 (2 * p + 2 + s) = md_carry μ c rw ∧ ∃ xs, rw_gr (μ 32 2) (μ 32 3) top (md_its μ c i (k :: suf).length) xs ∧ Pr μ μ' p s c rw (out ++ xs))) := by
        -- found
        have E : ∀ t, top ≤ t → md_at μ c i t D → (∀ y, top ≤ y → y < t → ¬ md_at μ c i y D) → AW none 121 140 [(2, 32), (0, p), (0, s), (0, c), (0, 401), (0, top), (0, i), (0, k), (1, D), (9, 0), (0, t)] [] n μ2 (PV n (fun μ' => Of (Sp p s rw) μ μ' ∧ μ' 47 (2 * p + 2 + s) = md_carry μ c rw ∧ ∃ xs, rw_gr (μ 32 2) (μ 32 3) top (md_its μ c i (k :: suf).length) xs ∧ Pr μ μ' p s c rw (out ++ xs))) := by
          intro t ht hat hmin
          have htc := hat.1.1
          refine aw_aload_n (q := 141) mX7_places dX7_places_140 rfl rfl ?_
          refine aw_get (t := 2) (ji := 30) (q := 144) mX7_places dX7_places_141 rfl f7_78 rfl kd_32 rfl (ly_32_30 hl) ?_
          refine aw_iload (q := 146) mX7_places dX7_places_144 rfl rfl ?_
          refine aw_iload_n (q := 147) mX7_places dX7_places_146 rfl rfl ?_
          refine aw_iast (q := 148) mX7_places dX7_places_147 rfl kd_51 (by omega) (by omega) (fun μ_147 e_147 => ?_)
          have hl : Lay n μ_147 := by rw [e_147]; exact Lay.setA la_51 hl
          refine aw_aload_n (q := 149) mX7_places dX7_places_148 rfl rfl ?_
          refine aw_get (t := 2) (ji := 31) (q := 152) mX7_places dX7_places_149 rfl f7_81 rfl kd_32 rfl (ly_32_31 hl) ?_
          refine aw_iload (q := 154) mX7_places dX7_places_152 rfl rfl ?_
          refine aw_iload (q := 156) mX7_places dX7_places_154 rfl rfl ?_
          refine aw_iast (q := 157) mX7_places dX7_places_156 rfl kd_52 (by omega) (by omega) (fun μ_156 e_156 => ?_)
          have hl : Lay n μ_156 := by rw [e_156]; exact Lay.setA la_52 hl
          refine aw_aload_n (q := 158) mX7_places dX7_places_157 rfl rfl ?_
          refine aw_get (t := 2) (ji := 32) (q := 161) mX7_places dX7_places_158 rfl f7_84 rfl kd_32 rfl (ly_32_32 hl) ?_
          refine aw_iload (q := 163) mX7_places dX7_places_161 rfl rfl ?_
          have hO5 : Of (Sp p s rw) μ μ_156 := by rw [e_156, e_147]; exact (hO.set (Or.inr (Or.inr ⟨by decide, by decide, hkm⟩))).set (Or.inr (Or.inr ⟨by decide, by decide, hkm⟩))
          have hBE5 := (hO5.mono Sp_Sw).beW
          have hRE5 : RE μ μ_156 := ⟨hO5 32 40 (by unfold Sp; omega), fun i => hO5 59 i (by unfold Sp; omega)⟩
          have htall := pX7_tall n μ_156 i c hl (hB.tr hBE5) (hR.tr hBE5 hRE5) hi0 (by rw [hRE5.1]; exact hi1) hc0 (by rw [md_choices_tr hBE5 hRE5]; exact hc1)
          rw [md_tall_tr hBE5 hRE5] at htall
          refine aw_aload_n (q := 164) mX7_places dX7_places_163 rfl rfl ?_
          refine aw_iload (q := 166) mX7_places dX7_places_164 rfl rfl ?_
          refine aw_iload_n (q := 167) mX7_places dX7_places_166 rfl rfl ?_
          refine aw_v2 (ci := 7) (q := 170) mX7_places dX7_places_167 rfl l7_172 k121_114 rfl kd_32 rfl rfl rfl (htall) (kpure ?_)
          refine aw_iast (q := 171) mX7_places dX7_places_170 rfl kd_53 (by omega) (by omega) (fun μ_170 e_170 => ?_)
          have hl : Lay n μ_170 := by rw [e_170]; exact Lay.setA la_53 hl
          refine aw_aload_n (q := 172) mX7_places dX7_places_171 rfl rfl ?_
          refine aw_get (t := 2) (ji := 33) (q := 175) mX7_places dX7_places_172 rfl f7_87 rfl kd_32 rfl (ly_32_33 hl) ?_
          refine aw_iload (q := 177) mX7_places dX7_places_175 rfl rfl ?_
          have hO6 : Of (Sp p s rw) μ μ_170 := by rw [e_170]; exact hO5.set (Or.inr (Or.inr ⟨by decide, by decide, hkm⟩))
          have hBE6 := (hO6.mono Sp_Sw).beW
          have htof := pX7_tallOf n μ_170 k hl (by omega) (by omega) (hN.tr hBE6)
          rw [hBE6.2 35 k (by decide) (by decide), hBE6.2 40 k (by decide) (by decide)] at htof
          -- at the end of the body
          have hkp : k ∉ pre := by
            rw [hp] at hnd
            have := (List.nodup_append.mp hnd).2.2
            intro hh
            exact this k hh k List.mem_cons_self rfl
          have J : ∀ μ3 : am_M, Lay n μ3 → Of (Sp p s rw) μ μ3 → (∀ j, μ3 62 j = μc 62 j) → Pr μ μ3 p s c (pre ++ [k]) (out ++ [t]) → μ3 47 (2 * p + 2 + s) = (if suf = [] then md_carry μ c rw else 0) → μ3 53 k = md_tall μ i c → AW none 121 229 [(2, 32), (0, p), (0, s), (0, c), (0, 401), (0, top), (0, i), (0, k), (1, D), (9, 0), (0, t)] [] n μ3 (PV n (fun μ' => Of (Sp p s rw) μ μ' ∧ μ' 47 (2 * p + 2 + s) = md_carry μ c rw ∧ ∃ xs, rw_gr (μ 32 2) (μ 32 3) top (md_its μ c i (k :: suf).length) xs ∧ Pr μ μ' p s c rw (out ++ xs))) := by
            intro μ3 hl hO3 h623 hPr3 hcar3 h53
            have e3 : μ3 32 3 = μ 32 3 := hO3 32 3 (by unfold Sp; omega)
            refine aw_iload (q := 231) mX7_places dX7_places_229 rfl rfl ?_
            refine aw_aload_n (q := 232) mX7_places dX7_places_231 rfl rfl ?_
            refine aw_get (t := 2) (ji := 32) (q := 235) mX7_places dX7_places_232 rfl f7_84 rfl kd_32 rfl (ly_32_32 hl) ?_
            refine aw_iload (q := 237) mX7_places dX7_places_235 rfl rfl ?_
            refine aw_iald (q := 238) mX7_places dX7_places_237 rfl kd_53 (by omega) (by omega) h53 ?_
            refine aw_iadd (q := 239) mX7_places dX7_places_238 rfl (by omega) (by omega) ?_
            refine aw_aload_n (q := 240) mX7_places dX7_places_239 rfl rfl ?_
            refine aw_get (t := 0) (ji := 3) (q := 243) mX7_places dX7_places_240 rfl f7_13 rfl kd_32 rfl e3 ?_
            refine aw_iadd (q := 244) mX7_places dX7_places_243 rfl (by omega) (by omega) ?_
            refine aw_istore (q := 246) mX7_places dX7_places_244 rfl (by decide) rfl ?_
            refine aw_iinc (q := 249) mX7_places dX7_places_246 rfl rfl (by decide) (by omega) (by omega) rfl ?_
            refine aw_goto (q := 83) mX7_places dX7_places_249 (by decide) ?_
            have haf := hat.2.1
            have h9 := ih (pre ++ [k]) (out ++ [t]) (t + md_tall μ i c + μ 32 3) μ3 (0, k) (1, D) (9, 0) (0, t) (by rw [hp]; simp) (by simp [ho]) (by omega) (fun hne => ?_) hO3 h623 hPr3 hcar3 (by omega)
            · rw [show (((pre ++ [k]).length : Nat) : Int) = i + 1 by rw [List.length_append, hi]; simp] at h9
              refine h9.mono ?_
              rintro r n' μ' ⟨q1, q2, q3, q4, xs, q5, q6⟩
              refine ⟨q1, q2, q3, q4, t :: xs, ⟨⟨ht, by omega, ⟨hta, htc, hat.1.2⟩, ?_, ?_⟩, fun y y1 y2 y3 => ?_, q5⟩, ?_⟩
              · rw [← hRk]; exact hat.2.1
              · rw [← hRk, ← hDe]; exact hat.2.2
              · refine hmin y y1 y2 ⟨⟨y3.1.2.1, y3.1.2.2⟩, ?_, ?_⟩
                · rw [hRk]; exact y3.2.1
                · rw [hDe, hRk]; exact y3.2.2
              · have e : out ++ t :: xs = out ++ [t] ++ xs := by simp
                rw [e]
                exact q6
            · rw [show (((pre ++ [k]).length : Nat) : Int) = i + 1 by rw [List.length_append, hi]; simp]
              rw [hRk] at haf
              cases hsl : suf with
              | nil => exact absurd hsl hne
              | cons a b =>
                rw [hsl] at haf
                have haf : (if 400 < t + md_tall μ i c + μ 32 3 then rw_NV else rw_D (μ 32 2) (μ 32 3) (md_its μ c (i + 1) (a :: b).length) (t + md_tall μ i c + μ 32 3)) < rw_NV := haf
                split at haf
                · omega
                · exact ⟨by omega, haf⟩
          have hrest : suf ≠ [] → μ 35 k + μ 40 k - md_tall μ i c = 0 := by
            intro hne
            have : suf.length ≠ 0 := fun z => hne (List.length_eq_zero_iff.mp z)
            rw [md_tall_full (show i < μ 32 40 - 1 by omega), hk]
            omega
          have hcarry : suf = [] → md_carry μ c rw = μ 35 k + μ 40 k - md_tall μ i c := by
            intro he
            unfold md_carry
            have h1 : rw.getLast? = some k := by rw [hp, he]; simp
            rw [h1]
            show μ 35 k + μ 40 k - md_tall μ ((rw.length : Int) - 1) c = _
            rw [show (rw.length : Int) - 1 = i by rw [hpl, he, hi]; simp]
          -- what stands behind the stores of k
          have hPrk : ∀ μ3 : am_M, (∀ a j, j ≠ k → 51 ≤ a → a ≤ 55 → μ3 a j = μ2 a j) → μ3 51 k = s → μ3 52 k = t → μ3 53 k = md_tall μ i c → μ3 54 k = μ 35 k + μ 40 k - md_tall μ i c → μ3 55 k = p → Pr μ μ3 p s c (pre ++ [k]) (out ++ [t]) := by
            intro μ3 hoth g1 g2 g3 g4 g5 j k' x hk' hx'
            by_cases hj : j < pre.length
            · rw [List.getElem?_append_left hj] at hk'
              rw [List.getElem?_append_left (by omega)] at hx'
              have hne : k' ≠ k := fun z => hkp (z ▸ List.mem_of_getElem? hk')
              rw [hoth 51 k' hne (by decide) (by decide), hoth 52 k' hne (by decide) (by decide), hoth 53 k' hne (by decide) (by decide), hoth 54 k' hne (by decide) (by decide), hoth 55 k' hne (by decide) (by decide)]
              exact hPr j k' x hk' hx'
            · by_cases hj2 : j = pre.length
              · subst hj2
                rw [List.getElem?_append_right (Nat.le_refl _)] at hk'
                rw [List.getElem?_append_right (by omega)] at hx'
                simp at hk'
                simp [ho] at hx'
                rw [← hk', ← hx', ← hi]
                exact ⟨g1, g2, g3, g4, g5⟩
              · rw [List.getElem?_eq_none (by simp; omega)] at hk'
                cases hk'
          refine aw_aload_n (q := 178) mX7_places dX7_places_177 rfl rfl ?_
          refine aw_iload (q := 180) mX7_places dX7_places_178 rfl rfl ?_
          refine aw_v1 (ci := 7) (q := 183) mX7_places dX7_places_180 rfl l7_160 k121_108 rfl kd_32 rfl rfl rfl (htof) (kpure ?_)
          refine aw_aload_n (q := 184) mX7_places dX7_places_183 rfl rfl ?_
          refine aw_get (t := 2) (ji := 32) (q := 187) mX7_places dX7_places_184 rfl f7_84 rfl kd_32 rfl (ly_32_32 hl) ?_
          refine aw_iload (q := 189) mX7_places dX7_places_187 rfl rfl ?_
          refine aw_iald (q := 190) mX7_places dX7_places_189 rfl kd_53 (by omega) (by omega) (rd_ss e_170) ?_
          refine aw_isub (q := 191) mX7_places dX7_places_190 rfl (by omega) (by omega) ?_
          refine aw_iast (q := 192) mX7_places dX7_places_191 rfl kd_54 (by omega) (by omega) (fun μ_191 e_191 => ?_)
          have hl : Lay n μ_191 := by rw [e_191]; exact Lay.setA la_54 hl
          refine aw_aload_n (q := 193) mX7_places dX7_places_192 rfl rfl ?_
          refine aw_get (t := 2) (ji := 34) (q := 196) mX7_places dX7_places_193 rfl f7_90 rfl kd_32 rfl (ly_32_34 hl) ?_
          refine aw_iload (q := 198) mX7_places dX7_places_196 rfl rfl ?_
          refine aw_iload_n (q := 199) mX7_places dX7_places_198 rfl rfl ?_
          refine aw_iast (q := 200) mX7_places dX7_places_199 rfl kd_55 (by omega) (by omega) (fun μ_199 e_199 => ?_)
          have hl : Lay n μ_199 := by rw [e_199]; exact Lay.setA la_55 hl
          refine aw_aload_n (q := 201) mX7_places dX7_places_200 rfl rfl ?_
          refine aw_get (t := 2) (ji := 33) (q := 204) mX7_places dX7_places_201 rfl f7_87 rfl kd_32 rfl (ly_32_33 hl) ?_
          refine aw_iload (q := 206) mX7_places dX7_places_204 rfl rfl ?_
          refine aw_iald (q := 207) mX7_places dX7_places_206 rfl kd_54 (by omega) (by omega) (rd_sn e_199 (Or.inl (by decide)) (rd_ss e_191)) ?_
          refine aw_if_le (tgt := 229) (q := 210) mX7_places dX7_places_207 rfl (by decide) (fun c_207 => ?_) (fun c_207 => ?_)
          · have hO9 : Of (Sp p s rw) μ μ_199 := by rw [e_199, e_191]; exact (hO6.set (Or.inr (Or.inr ⟨by decide, by decide, hkm⟩))).set (Or.inr (Or.inr ⟨by decide, by decide, hkm⟩))
            refine J μ_199 hl hO9 (fun j => ?_) (hPrk μ_199 (fun a j hj ha1 ha2 => ?_) ?_ ?_ ?_ ?_ ?_) ?_ ?_
            · rw [e_199, am_sn (Or.inl (by decide)), e_191, am_sn (Or.inl (by decide)), e_170, am_sn (Or.inl (by decide)), e_156, am_sn (Or.inl (by decide)), e_147, am_sn (Or.inl (by decide))]; exact h62 j
            · rw [e_199, am_sn (Or.inr hj), e_191, am_sn (Or.inr hj), e_170, am_sn (Or.inr hj), e_156, am_sn (Or.inr hj), e_147, am_sn (Or.inr hj)]
            · rw [e_199, am_sn (Or.inl (by decide)), e_191, am_sn (Or.inl (by decide)), e_170, am_sn (Or.inl (by decide)), e_156, am_sn (Or.inl (by decide)), e_147, am_ss]
            · rw [e_199, am_sn (Or.inl (by decide)), e_191, am_sn (Or.inl (by decide)), e_170, am_sn (Or.inl (by decide)), e_156, am_ss]
            · rw [e_199, am_sn (Or.inl (by decide)), e_191, am_sn (Or.inl (by decide)), e_170, am_ss]
            · rw [e_199, am_sn (Or.inl (by decide)), e_191, am_ss]
            · rw [e_199, am_ss]
            · rw [e_199, am_sn (Or.inl (by decide)), e_191, am_sn (Or.inl (by decide)), e_170, am_sn (Or.inl (by decide)), e_156, am_sn (Or.inl (by decide)), e_147, am_sn (Or.inl (by decide)), hcar, if_neg (by simp)]
              by_cases he : suf = []
              · rw [if_pos he, hcarry he]; omega
              · rw [if_neg he]
            · rw [e_199, am_sn (Or.inl (by decide)), e_191, am_sn (Or.inl (by decide)), e_170, am_ss]
          · refine aw_aload_n (q := 211) mX7_places dX7_places_210 rfl rfl ?_
            refine aw_get (t := 2) (ji := 26) (q := 214) mX7_places dX7_places_211 rfl f7_65 rfl kd_32 rfl (ly_32_26 hl) ?_
            refine aw_iconst (q := 215) mX7_places dX7_places_214 rfl rfl ?_
            refine aw_iload_n (q := 216) mX7_places dX7_places_215 rfl rfl ?_
            refine aw_imul (q := 217) mX7_places dX7_places_216 rfl (by omega) (by omega) ?_
            refine aw_iconst (q := 218) mX7_places dX7_places_217 rfl rfl ?_
            refine aw_iadd (q := 219) mX7_places dX7_places_218 rfl (by omega) (by omega) ?_
            refine aw_iload_n (q := 220) mX7_places dX7_places_219 rfl rfl ?_
            refine aw_iadd (q := 221) mX7_places dX7_places_220 rfl (by omega) (by omega) ?_
            refine aw_aload_n (q := 222) mX7_places dX7_places_221 rfl rfl ?_
            refine aw_get (t := 2) (ji := 33) (q := 225) mX7_places dX7_places_222 rfl f7_87 rfl kd_32 rfl (ly_32_33 hl) ?_
            refine aw_iload (q := 227) mX7_places dX7_places_225 rfl rfl ?_
            refine aw_iald (q := 228) mX7_places dX7_places_227 rfl kd_54 (by omega) (by omega) (rd_sn e_199 (Or.inl (by decide)) (rd_ss e_191)) ?_
            refine aw_iast (q := 229) mX7_places dX7_places_228 rfl kd_47 (by omega) (by omega) (fun μ_228 e_228 => ?_)
            have hl : Lay n μ_228 := by rw [e_228]; exact Lay.setA la_47 hl
            have hO9 : Of (Sp p s rw) μ μ_228 := by rw [e_228, e_199, e_191]; exact ((hO6.set (Or.inr (Or.inr ⟨by decide, by decide, hkm⟩))).set (Or.inr (Or.inr ⟨by decide, by decide, hkm⟩))).set (Or.inr (Or.inl ⟨rfl, rfl⟩))
            refine J μ_228 hl hO9 (fun j => ?_) (hPrk μ_228 (fun a j hj ha1 ha2 => ?_) ?_ ?_ ?_ ?_ ?_) ?_ ?_
            · rw [e_228, am_sn (Or.inl (by decide)), e_199, am_sn (Or.inl (by decide)), e_191, am_sn (Or.inl (by decide)), e_170, am_sn (Or.inl (by decide)), e_156, am_sn (Or.inl (by decide)), e_147, am_sn (Or.inl (by decide))]; exact h62 j
            · rw [e_228, am_sn (Or.inl (by omega)), e_199, am_sn (Or.inr hj), e_191, am_sn (Or.inr hj), e_170, am_sn (Or.inr hj), e_156, am_sn (Or.inr hj), e_147, am_sn (Or.inr hj)]
            · rw [e_228, am_sn (Or.inl (by decide)), e_199, am_sn (Or.inl (by decide)), e_191, am_sn (Or.inl (by decide)), e_170, am_sn (Or.inl (by decide)), e_156, am_sn (Or.inl (by decide)), e_147, am_ss]
            · rw [e_228, am_sn (Or.inl (by decide)), e_199, am_sn (Or.inl (by decide)), e_191, am_sn (Or.inl (by decide)), e_170, am_sn (Or.inl (by decide)), e_156, am_ss]
            · rw [e_228, am_sn (Or.inl (by decide)), e_199, am_sn (Or.inl (by decide)), e_191, am_sn (Or.inl (by decide)), e_170, am_ss]
            · rw [e_228, am_sn (Or.inl (by decide)), e_199, am_sn (Or.inl (by decide)), e_191, am_ss]
            · rw [e_228, am_sn (Or.inl (by decide)), e_199, am_ss]
            · rw [e_228, am_ss]
              by_cases he : suf = []
              · rw [if_pos he, hcarry he]
              · have := hrest he; omega
            · rw [e_228, am_sn (Or.inl (by decide)), e_199, am_sn (Or.inl (by decide)), e_191, am_sn (Or.inl (by decide)), e_170, am_ss]
        intro d
        induction d with
        | zero =>
          intro t ht htd hmin
          refine aw_aload_n (q := 121) mX7_places dX7_places_120 rfl rfl ?_
          refine aw_iload (q := 123) mX7_places dX7_places_121 rfl rfl ?_
          refine aw_iload_n (q := 124) mX7_places dX7_places_123 rfl rfl ?_
          refine aw_iload (q := 126) mX7_places dX7_places_124 rfl rfl ?_
          refine aw_lload (q := 128) mX7_places dX7_places_126 rfl rfl ?_
          refine aw_v4 (ci := 7) (q := 131) mX7_places dX7_places_128 rfl l7_219 k121_122 rfl kd_32 rfl rfl rfl (pX7_isAt n μ μ2 c i t D hl hB hR hL hc0 hc1 hi0 hi1 (by omega) (by omega) hta ⟨hBE, hRE, h49, hT⟩) (kint (fun x μ3 hx => ?_))
          obtain ⟨rfl, hx⟩ := hx
          have hxt : md_at μ c i t D := by rw [show t = x0 by omega]; exact hx0
          refine aw_if_ne (tgt := 140) (q := 134) mX7_places dX7_places_131 rfl (by decide) (fun c_131 => ?_) (fun c_131 => ?_)
          · exact E t ht hxt hmin
          · rcases hx with ⟨h1, -⟩ | ⟨-, h2⟩
            · omega
            · exact absurd hxt h2
        | succ d ihd =>
          intro t ht htd hmin
          refine aw_aload_n (q := 121) mX7_places dX7_places_120 rfl rfl ?_
          refine aw_iload (q := 123) mX7_places dX7_places_121 rfl rfl ?_
          refine aw_iload_n (q := 124) mX7_places dX7_places_123 rfl rfl ?_
          refine aw_iload (q := 126) mX7_places dX7_places_124 rfl rfl ?_
          refine aw_lload (q := 128) mX7_places dX7_places_126 rfl rfl ?_
          refine aw_v4 (ci := 7) (q := 131) mX7_places dX7_places_128 rfl l7_219 k121_122 rfl kd_32 rfl rfl rfl (pX7_isAt n μ μ2 c i t D hl hB hR hL hc0 hc1 hi0 hi1 (by omega) (by omega) hta ⟨hBE, hRE, h49, hT⟩) (kint (fun x μ3 hx => ?_))
          obtain ⟨rfl, hx⟩ := hx
          refine aw_if_ne (tgt := 140) (q := 134) mX7_places dX7_places_131 rfl (by decide) (fun c_131 => ?_) (fun c_131 => ?_)
          · refine E t ht ?_ hmin
            rcases hx with ⟨-, h2⟩ | ⟨h1, -⟩
            · exact h2
            · exact absurd h1 c_131
          · refine aw_iinc (q := 137) mX7_places dX7_places_134 rfl rfl (by decide) (by omega) (by omega) rfl ?_
            refine aw_goto (q := 120) mX7_places dX7_places_137 (by decide) ?_
            refine ihd (t + 1) (by omega) (by omega) (fun y y1 y2 => ?_)
            by_cases he : y = t
            · rw [he]
              rcases hx with ⟨h1, -⟩ | ⟨-, h2⟩
              · omega
              · exact h2
            · exact hmin y y1 (by omega)
      exact G (x0 - top).toNat top (Int.le_refl _) (by omega) (fun y y1 y2 => by omega)

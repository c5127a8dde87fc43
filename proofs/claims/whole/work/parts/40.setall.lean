theorem am_shl_0 : am_shl 0 = 1 := by decide
theorem md_held_0 {μ : am_M} (hB : Bk μ) (fr a b : Int) : md_held μ fr 0 a b := by
  have hz : md_hr μ fr (0 : Int).toNat = [] := rfl
  unfold md_held
  rw [hz]
  have hc : ∀ r, mr_can μ r [] := fun r => ⟨0, by decide, (show (0 : Int) < 1 by decide), trivial⟩
  refine ⟨?_, (show (0 : Int) ≤ 6 by decide), 0, by decide, (show (0 : Int) < am_shl 0 by decide), hc a, hc b⟩
  show (0 : Int) ≤ μ 32 2
  have := hB.1; omega
theorem md_ls_mono {μ : am_M} (hB : Bk μ) {fr : Int} (hf : 0 ≤ fr) : ∀ (m k : Nat), k ≤ m → fr + (m : Int) ≤ μ 32 7 → 0 ≤ md_ls μ fr k ∧ md_ls μ fr k ≤ md_ls μ fr m := by
  intro m
  induction m with
  | zero => intro k hk h; rw [show k = 0 by omega]; exact ⟨Int.le_refl _, Int.le_refl _⟩
  | succ m ih =>
    intro k hk h
    have hh := hB.2.2.2.2.2.2.2.1 (fr + (m : Int)) (by omega) (by omega)
    have e : md_ls μ fr (m + 1) = md_ls μ fr m + μ 33 (fr + (m : Int)) := rfl
    by_cases hkm : k = m + 1
    · rw [hkm]
      have := ih m (Nat.le_refl _) (by omega)
      omega
    · have := ih k (by omega) (by omega)
      omega
def MS (μ : am_M) : Prop := Chain μ (μ 32 23) ∧ μ 47 (2 * μ 32 23) = 0 ∧ μ 47 (2 * μ 32 23 + 1) = 0 ∧ ((μ 32 22 = 1 ∧ frP μ (μ 32 23) = μ 32 7) ∨ (μ 32 22 = 0 ∧ frP μ (μ 32 23) < μ 32 7 ∧ ¬ md_held μ (frP μ (μ 32 23)) 1 0 0))
def Sa (a j : Int) : Prop := (45 ≤ a ∧ a ≤ 65) ∨ (a = 32 ∧ (j = 21 ∨ j = 22 ∨ j = 23 ∨ j = 39 ∨ j = 40))
theorem Sa_Sw : ∀ a j, Sa a j → Sw a j := fun a j h => by unfold Sa at h; unfold Sw; omega
theorem MS.pages {μ : am_M} (hB : Bk μ) (h : MS μ) : 0 ≤ μ 32 23 ∧ μ 32 23 ≤ 84 := by
  obtain ⟨⟨h0, -, -, h4⟩, -, -, -⟩ := h
  obtain ⟨-, -, h5, h6, h7⟩ := h4 _ h0 (Int.le_refl _)
  have h8 := md_hr_le (μ := μ) (fr := 0) (m := (frP μ (μ 32 23)).toNat)
  have hb := hB.2.2.2.2.2.1
  have hb7 := hB.2.2.2.2.2.2.1
  refine ⟨h0, ?_⟩
  split at h5 <;> omega
/-- the lines of a page get their tops -/
theorem pX7_setAll_l (n : Nat) (μ : am_M) (fr a b many P : Int) (hl0 : Lay n μ) (hB : Bk μ) (hf : 0 ≤ fr) (hm0 : 0 ≤ many) (hfm : fr + many ≤ μ 32 7) (hP : μ 32 23 = P) (Q : Option am_V → Nat → am_M → Prop)
    (kk : ∀ (μ2 : am_M) (v6 v7 : am_V), Of (fun q j => (q = 49 ∨ q = 50) ∧ fr ≤ j ∧ j < fr + many) μ μ2 → (∀ l, fr ≤ l → l < fr + many → μ2 49 l = md_ls μ fr (l - fr).toNat ∧ μ2 50 l = P) → AW none 123 250 [(2, 32), (0, fr), (0, a), (0, b), (0, many), (0, 1), v6, v7] [] n μ2 Q) :
    ∀ (d m : Nat) (μ1 : am_M), (m : Int) + d = many → Of (fun q j => (q = 49 ∨ q = 50) ∧ fr ≤ j ∧ j < fr + many) μ μ1 → (∀ l, fr ≤ l → l < fr + m → μ1 49 l = md_ls μ fr (l - fr).toNat ∧ μ1 50 l = P) → AW none 123 203 [(2, 32), (0, fr), (0, a), (0, b), (0, many), (0, 1), (0, md_ls μ fr m), (0, fr + m)] [] n μ1 Q := by
  obtain ⟨b1, b2, b3, b4, b5, b6, b7, b8, b9⟩ := id hB
  intro d
  induction d with
  | zero =>
    intro m μ1 hm hO hv
    refine aw_iload (q := 205) mX7_setAll dX7_setAll_203 rfl rfl ?_
    refine aw_iload_n (q := 206) mX7_setAll dX7_setAll_205 rfl rfl ?_
    refine aw_iload (q := 208) mX7_setAll dX7_setAll_206 rfl rfl ?_
    refine aw_iadd (q := 209) mX7_setAll dX7_setAll_208 rfl (by omega) (by omega) ?_
    refine aw_icmp_ge (tgt := 250) (q := 212) mX7_setAll dX7_setAll_209 rfl (by decide) (fun c_209 => ?_) (fun c_209 => ?_)
    · exact kk μ1 _ _ hO (fun l l0 l1 => hv l l0 (by omega))
    · exact absurd c_209 (by omega)
  | succ d ih =>
    intro m μ1 hm hO hv
    have hl : Lay n μ1 := hl0.ofW (hO.mono (fun q j z => by unfold Sw; omega))
    have hb := md_ls_mono hB hf m m (Nat.le_refl _) (by omega)
    have hh := b8 (fr + (m : Int)) (by omega) (by omega)
    have hmx : ∀ k : Nat, fr + (k : Int) ≤ μ 32 7 → md_ls μ fr k ≤ 50 * (k : Int) := by
      intro k
      induction k with
      | zero => intro _; exact Int.le_refl _
      | succ k ihk =>
        intro hk
        have h1 := ihk (by omega)
        have h2 := b8 (fr + (k : Int)) (by omega) (by omega)
        have e : md_ls μ fr (k + 1) = md_ls μ fr k + μ 33 (fr + (k : Int)) := rfl
        omega
    have hmx2 := hmx m (by omega)
    have e23 : μ1 32 23 = P := (hO 32 23 (by omega)).trans hP
    refine aw_iload (q := 205) mX7_setAll dX7_setAll_203 rfl rfl ?_
    refine aw_iload_n (q := 206) mX7_setAll dX7_setAll_205 rfl rfl ?_
    refine aw_iload (q := 208) mX7_setAll dX7_setAll_206 rfl rfl ?_
    refine aw_iadd (q := 209) mX7_setAll dX7_setAll_208 rfl (by omega) (by omega) ?_
    refine aw_icmp_ge (tgt := 250) (q := 212) mX7_setAll dX7_setAll_209 rfl (by decide) (fun c_209 => ?_) (fun c_209 => ?_)
    · exact absurd c_209 (by omega)
    · have hl49 : μ1 33 (fr + (m : Int)) = μ 33 (fr + (m : Int)) := hO 33 _ (by omega)
      refine aw_aload_n (q := 213) mX7_setAll dX7_setAll_212 rfl rfl ?_
      refine aw_get (t := 2) (ji := 28) (q := 216) mX7_setAll dX7_setAll_213 rfl f7_72 rfl kd_32 rfl (ly_32_28 hl) ?_
      refine aw_iload (q := 218) mX7_setAll dX7_setAll_216 rfl rfl ?_
      refine aw_iload (q := 220) mX7_setAll dX7_setAll_218 rfl rfl ?_
      refine aw_iast (q := 221) mX7_setAll dX7_setAll_220 rfl kd_49 (by omega) (by omega) (fun μ_220 e_220 => ?_)
      have hl : Lay n μ_220 := by rw [e_220]; exact Lay.setA la_49 hl
      refine aw_aload_n (q := 222) mX7_setAll dX7_setAll_221 rfl rfl ?_
      refine aw_get (t := 2) (ji := 29) (q := 225) mX7_setAll dX7_setAll_222 rfl f7_75 rfl kd_32 rfl (ly_32_29 hl) ?_
      refine aw_iload (q := 227) mX7_setAll dX7_setAll_225 rfl rfl ?_
      refine aw_aload_n (q := 228) mX7_setAll dX7_setAll_227 rfl rfl ?_
      refine aw_get (t := 0) (ji := 23) (q := 231) mX7_setAll dX7_setAll_228 rfl f7_226 rfl kd_32 rfl (rd_sn e_220 (Or.inl (by decide)) e23) ?_
      refine aw_iast (q := 232) mX7_setAll dX7_setAll_231 rfl kd_50 (by omega) (by omega) (fun μ_231 e_231 => ?_)
      have hl : Lay n μ_231 := by rw [e_231]; exact Lay.setA la_50 hl
      refine aw_iload (q := 234) mX7_setAll dX7_setAll_232 rfl rfl ?_
      refine aw_aload_n (q := 235) mX7_setAll dX7_setAll_234 rfl rfl ?_
      refine aw_get (t := 2) (ji := 9) (q := 238) mX7_setAll dX7_setAll_235 rfl f7_22 rfl kd_32 rfl (ly_32_9 hl) ?_
      refine aw_iload (q := 240) mX7_setAll dX7_setAll_238 rfl rfl ?_
      refine aw_iald (q := 241) mX7_setAll dX7_setAll_240 rfl kd_33 (by omega) (by omega) (rd_sn e_231 (Or.inl (by decide)) (rd_sn e_220 (Or.inl (by decide)) hl49)) ?_
      refine aw_iadd (q := 242) mX7_setAll dX7_setAll_241 rfl (by omega) (by omega) ?_
      refine aw_istore (q := 244) mX7_setAll dX7_setAll_242 rfl (by decide) rfl ?_
      refine aw_iinc (q := 247) mX7_setAll dX7_setAll_244 rfl rfl (by decide) (by omega) (by omega) rfl ?_
      refine aw_goto (q := 203) mX7_setAll dX7_setAll_247 (by decide) ?_
      have h9 := ih (m + 1) μ_231 (by omega) (by
        rw [e_231, e_220]; exact (hO.set ⟨Or.inl rfl, by omega, by omega⟩).set ⟨Or.inr rfl, by omega, by omega⟩) (fun l l0 l1 => by
        rw [e_231, e_220]
        by_cases e : l = fr + (m : Int)
        · rw [e, am_sn (Or.inl (by decide)), am_ss, am_ss]
          refine ⟨?_, rfl⟩
          congr 1; omega
        · rw [am_sn (Or.inl (by decide)), am_sn (Or.inr e), am_sn (Or.inr e), am_sn (Or.inl (by decide))]
          exact hv l l0 (by omega))
      rw [show fr + ((m + 1 : Nat) : Int) = fr + (m : Int) + 1 by omega] at h9
      exact h9
theorem pX7_setAll (n : Nat) (μ : am_M) (hl0 : Lay n μ) (hB : Bk μ) (hset : (μ 32 21 = 1 ∧ MS μ) ∨ μ 32 21 = 0) : AC 123 [(2, 32)] n μ (PV n (fun μ' => Of Sa μ μ' ∧ μ' 32 21 = 1 ∧ MS μ')) := by
  obtain ⟨b1, b2, b3, b4, b5, b6, b7, b8, b9⟩ := id hB
  have hl := hl0
  -- the loop
  have G : ∀ (d : Nat) (μ1 : am_M) (fr P : Int) (v2 v3 v4 v5 v6 v7 : am_V), P + d = 85 → Of Sa μ μ1 → μ1 32 21 = 1 → μ1 32 22 = 1 → μ1 32 23 = P → fr = frP μ1 P → Chain μ1 P → AW none 123 39 [(2, 32), (0, fr), v2, v3, v4, v5, v6, v7] [] n μ1 (PV n (fun μ' => Of Sa μ μ' ∧ μ' 32 21 = 1 ∧ MS μ')) := by
    intro d
    induction d with
    | zero =>
      intro μ1 fr P v2 v3 v4 v5 v6 v7 hd hO h21 h22 h23 hfr hC
      exfalso
      obtain ⟨h0, -, -, h4⟩ := hC
      obtain ⟨-, -, h5, h6, h7⟩ := h4 _ h0 (Int.le_refl _)
      have hBE := (hO.mono Sa_Sw).beW
      have h8 := md_hr_le (μ := μ1) (fr := 0) (m := (frP μ1 P).toNat)
      rw [hBE.1 8 (by decide) (by decide)] at h8
      rw [hBE.1 7 (by decide) (by decide)] at h7
      split at h5 <;> omega
    | succ d ih =>
      intro μ1 fr P v2 v3 v4 v5 v6 v7 hd hO h21 h22 h23 hfr hC
      have hl1 : Lay n μ1 := hl0.ofW (hO.mono Sa_Sw)
      have hl := hl1
      have hBE := (hO.mono Sa_Sw).beW
      have hB1 := hB.tr hBE
      obtain ⟨hP0, ⟨hz0, hz1⟩, hC3, hC4⟩ := id hC
      obtain ⟨hca, hcb, hms, hf0, hf1⟩ := hC4 P hP0 (Int.le_refl _)
      rw [← hfr] at hms hf0 hf1
      have hhl := md_hr_le (μ := μ1) (fr := 0) (m := fr.toNat)
      have e8 : μ1 32 8 = μ 32 8 := hBE.1 8 (by decide) (by decide)
      have e7 : μ1 32 7 = μ 32 7 := hBE.1 7 (by decide) (by decide)
      obtain ⟨a, ha⟩ : ∃ a, μ1 47 (2 * P) = a := ⟨_, rfl⟩
      obtain ⟨b, hb⟩ : ∃ b, μ1 47 (2 * P + 1) = b := ⟨_, rfl⟩
      rw [ha] at hca hms
      rw [hb] at hcb hms
      -- a page
      have B : (fr < μ1 32 7 ∨ 0 < a ∨ 0 < b) → AW none 123 77 [(2, 32), (0, fr), v2, v3, v4, v5, v6, v7] [] n μ1 (PV n (fun μ' => Of Sa μ μ' ∧ μ' 32 21 = 1 ∧ MS μ')) := by
        intro hgo
        have hP83 : P ≤ 83 := by split at hms <;> omega
        have K176 : ∀ (many : Int) (μ2 : am_M) (w6 w7 : am_V), Of Sh μ1 μ2 → μ2 32 21 = 1 → μ2 32 22 = 1 → μ2 32 23 = P → 0 ≤ many → fr + many ≤ μ1 32 7 → MX μ1 fr many a b → (0 < many ∨ 0 < a ∨ 0 < b) → AW none 123 176 [(2, 32), (0, fr), (0, a), (0, b), (0, many), (0, 1), w6, w7] [] n μ2 (PV n (fun μ' => Of Sa μ μ' ∧ μ' 32 21 = 1 ∧ MS μ')) := by
          intro many μ2 w6 w7 hO2 h212 h222 h232 hm0 hfm hMX hne
          have hl2 : Lay n μ2 := hl1.ofW (hO2.mono Sh_Sw)
          have hl := hl2
          refine aw_aload_n (q := 177) mX7_setAll dX7_setAll_176 rfl rfl ?_
          refine aw_get (t := 2) (ji := 24) (q := 180) mX7_setAll dX7_setAll_177 rfl f7_59 rfl kd_32 rfl (ly_32_24 hl) ?_
          refine aw_aload_n (q := 181) mX7_setAll dX7_setAll_180 rfl rfl ?_
          refine aw_get (t := 0) (ji := 23) (q := 184) mX7_setAll dX7_setAll_181 rfl f7_226 rfl kd_32 rfl h232 ?_
          refine aw_iload_n (q := 185) mX7_setAll dX7_setAll_184 rfl rfl ?_
          refine aw_iast (q := 186) mX7_setAll dX7_setAll_185 rfl kd_45 (by omega) (by omega) (fun μ_185 e_185 => ?_)
          have hl : Lay n μ_185 := by rw [e_185]; exact Lay.setA la_45 hl
          refine aw_aload_n (q := 187) mX7_setAll dX7_setAll_186 rfl rfl ?_
          refine aw_get (t := 2) (ji := 25) (q := 190) mX7_setAll dX7_setAll_187 rfl f7_62 rfl kd_32 rfl (ly_32_25 hl) ?_
          refine aw_aload_n (q := 191) mX7_setAll dX7_setAll_190 rfl rfl ?_
          refine aw_get (t := 0) (ji := 23) (q := 194) mX7_setAll dX7_setAll_191 rfl f7_226 rfl kd_32 rfl (rd_sn e_185 (Or.inl (by decide)) h232) ?_
          refine aw_iload (q := 196) mX7_setAll dX7_setAll_194 rfl rfl ?_
          refine aw_iast (q := 197) mX7_setAll dX7_setAll_196 rfl kd_46 (by omega) (by omega) (fun μ_196 e_196 => ?_)
          have hl : Lay n μ_196 := by rw [e_196]; exact Lay.setA la_46 hl
          refine aw_iconst (q := 198) mX7_setAll dX7_setAll_197 rfl rfl ?_
          refine aw_istore (q := 200) mX7_setAll dX7_setAll_198 rfl (by decide) rfl ?_
          refine aw_iload_n (q := 201) mX7_setAll dX7_setAll_200 rfl rfl ?_
          refine aw_istore (q := 203) mX7_setAll dX7_setAll_201 rfl (by decide) rfl ?_
          have hl3 := hl
          have S3 : Of (fun q j => Sh q j ∨ ((q = 45 ∨ q = 46) ∧ j = P)) μ1 μ_196 := by
            rw [e_196, e_185]
            exact ((hO2.mono (fun q j z => Or.inl z)).set (Or.inr ⟨Or.inl rfl, rfl⟩)).set (Or.inr ⟨Or.inr rfl, rfl⟩)
          have S3w : Of Sw μ1 μ_196 := S3.mono (fun q j z => by unfold Sh at z; unfold Sw; omega)
          have hBE3 := S3w.beW
          have hB3 := hB1.tr hBE3
          have e73 : μ_196 32 7 = μ1 32 7 := hBE3.1 7 (by decide) (by decide)
          have h233 : μ_196 32 23 = P := by rw [e_196, am_sn (Or.inl (by decide)), e_185, am_sn (Or.inl (by decide))]; exact h232
          have h213 : μ_196 32 21 = 1 := by rw [e_196, am_sn (Or.inl (by decide)), e_185, am_sn (Or.inl (by decide))]; exact h212
          have h223 : μ_196 32 22 = 1 := by rw [e_196, am_sn (Or.inl (by decide)), e_185, am_sn (Or.inl (by decide))]; exact h222
          have h45 : μ_196 45 P = fr := by rw [e_196, am_sn (Or.inl (by decide)), e_185, am_ss]
          have h46 : μ_196 46 P = many := by rw [e_196, am_ss]
          have hL := pX7_setAll_l n μ_196 fr a b many P hl3 hB3 hf0 hm0 (by rw [e73]; exact hfm) h233 (PV n (fun μ' => Of Sa μ μ' ∧ μ' 32 21 = 1 ∧ MS μ')) ?_ many.toNat 0 μ_196 (by omega) Of.rf (fun l l0 l1 => by omega)
          · rw [show fr + ((0 : Nat) : Int) = fr by omega] at hL
            exact hL
          · intro μ4 x6 x7 hO4 hv4
            have S4 : Of (fun q j => Sh q j ∨ ((q = 45 ∨ q = 46) ∧ j = P) ∨ ((q = 49 ∨ q = 50) ∧ fr ≤ j)) μ1 μ4 := fun q j hs => (hO4 q j (fun z => hs (by omega))).trans (S3 q j (fun z => hs (by rcases z with z | z; exact Or.inl z; exact Or.inr (Or.inl z))))
            have S4w : Of Sw μ1 μ4 := S4.mono (fun q j z => by unfold Sh at z; unfold Sw; omega)
            have hBE4 := S4w.beW
            have hB4 := hB1.tr hBE4
            have hl4 : Lay n μ4 := hl1.ofW S4w
            have hl := hl4
            have h454 : μ4 45 P = fr := (hO4 45 P (by omega)).trans h45
            have h464 : μ4 46 P = many := (hO4 46 P (by omega)).trans h46
            have h234 : μ4 32 23 = P := (hO4 32 23 (by omega)).trans h233
            have h214 : μ4 32 21 = 1 := (hO4 32 21 (by omega)).trans h213
            have h224 : μ4 32 22 = 1 := (hO4 32 22 (by omega)).trans h223
            have h474 : ∀ j, μ4 47 j = μ1 47 j := fun j => S4 47 j (by unfold Sh; omega)
            have e74 : μ4 32 7 = μ1 32 7 := hBE4.1 7 (by decide) (by decide)
            have hheld1 : md_held μ1 fr many a b := by
              by_cases hz : many = 0
              · rw [hz]; exact md_held_0 hB1 fr a b
              · exact hMX.1 many (by omega) (Int.le_refl _)
            have hls : ∀ l, fr ≤ l → l < fr + many → 0 ≤ md_ls μ1 fr (l - fr).toNat ∧ md_ls μ1 fr (l - fr).toNat ≤ 400 := fun l l0 l1 => by
              have h1 := md_ls_mono hB1 hf0 many.toNat (l - fr).toNat (by omega) (by omega)
              have h2 := hheld1.1
              have := hB1.1
              omega
            have hv4' : ∀ l, fr ≤ l → l < fr + many → μ4 49 l = md_ls μ1 fr (l - fr).toNat ∧ μ4 50 l = P := fun l l0 l1 => by
              have := hv4 l l0 l1
              rw [md_ls_tr hBE3] at this
              exact this
            have hset := pX7_sets n μ4 P fr many a b hl4 hB4 hP0 (by omega) h454 h464 hf0 hm0 (by rw [e74]; exact hfm) (fun l l0 l1 => by rw [(hv4' l l0 l1).1]; exact hls l l0 l1) (by rw [h474]; exact ha) (by rw [h474]; exact hb) hca.1 (by omega) hcb.1 (by omega) (by rw [md_held_be hBE4]; exact hheld1)
            refine aw_aload_n (q := 251) mX7_setAll dX7_setAll_250 rfl rfl ?_
            refine aw_aload_n (q := 252) mX7_setAll dX7_setAll_251 rfl rfl ?_
            refine aw_get (t := 0) (ji := 23) (q := 255) mX7_setAll dX7_setAll_252 rfl f7_226 rfl kd_32 rfl h234 ?_
            refine aw_v1 (ci := 7) (q := 258) mX7_setAll dX7_setAll_255 rfl l7_233 k123_120 rfl kd_32 rfl rfl rfl (hset) (kvoid (fun μ5 hq => ?_))
            obtain ⟨hO5, hPB⟩ := hq
            obtain ⟨H, hH⟩ : ∃ H, H = md_hr μ1 fr many.toNat := ⟨_, rfl⟩
            rw [md_hr_tr hBE4, ← hH] at hO5 hPB
            have hHm : ∀ k ∈ H, 0 ≤ k ∧ k < ((μ1 32 8).toNat : Int) ∧ fr ≤ μ1 34 k ∧ μ1 34 k < fr + ((many.toNat : Nat) : Int) := fun k hk => by rw [hH] at hk; exact md_hr_mem hk
            have hl5 : Lay n μ5 := hl4.ofW (hO5.mono Ss_Sw)
            have hl := hl5
            have h235 : μ5 32 23 = P := (hO5 32 23 (by unfold Ss; omega)).trans h234
            refine aw_iload_n (q := 259) mX7_setAll dX7_setAll_258 rfl rfl ?_
            refine aw_iload (q := 261) mX7_setAll dX7_setAll_259 rfl rfl ?_
            refine aw_iadd (q := 262) mX7_setAll dX7_setAll_261 rfl (by omega) (by omega) ?_
            refine aw_istore_n (q := 263) mX7_setAll dX7_setAll_262 rfl (by decide) rfl ?_
            refine aw_aload_n (q := 264) mX7_setAll dX7_setAll_263 rfl rfl ?_
            refine aw_dupr (q := 265) mX7_setAll dX7_setAll_264 rfl ?_
            refine aw_get (t := 0) (ji := 23) (q := 268) mX7_setAll dX7_setAll_265 rfl f7_226 rfl kd_32 rfl h235 ?_
            refine aw_iconst (q := 269) mX7_setAll dX7_setAll_268 rfl rfl ?_
            refine aw_iadd (q := 270) mX7_setAll dX7_setAll_269 rfl (by omega) (by omega) ?_
            refine aw_put (t := 0) (ji := 23) (q := 273) mX7_setAll dX7_setAll_270 rfl f7_226 rfl kd_32 rfl (Or.inl rfl) (Or.inl (by decide)) (fun μ_270 e_270 => ?_)
            have hl : Lay n μ_270 := by rw [e_270]; exact Lay.setF lf_32_23 hl
            refine aw_goto (q := 39) mX7_setAll dX7_setAll_273 (by decide) ?_
            have h6 : ∀ q j, (q ≠ 32 ∨ j ≠ 23) → μ_270 q j = μ5 q j := fun q j z => by rw [e_270, am_sn z]
            have S6w : Of Sw μ1 μ_270 := fun q j hs => by
              rw [h6 q j (by unfold Sw at hs; omega), hO5 q j (fun z => hs (Ss_Sw _ _ z))]
              exact S4w q j hs
            have hBE6 := S6w.beW
            have e456 : ∀ q, 0 ≤ q → q < P → μ_270 45 q = μ1 45 q ∧ μ_270 46 q = μ1 46 q ∧ μ_270 48 q = μ1 48 q := fun q q0 q1 => by
              refine ⟨?_, ?_, ?_⟩
              · rw [h6 _ _ (by omega), hO5 _ _ (by unfold Ss; omega), S4 _ _ (by unfold Sh; omega)]
              · rw [h6 _ _ (by omega), hO5 _ _ (by unfold Ss; omega), S4 _ _ (by unfold Sh; omega)]
              · rw [h6 _ _ (by omega), hO5 _ _ (by unfold Ss; omega), S4 _ _ (by unfold Sh; omega)]
            have e476 : ∀ j, 0 ≤ j → j ≤ 2 * P + 1 → μ_270 47 j = μ1 47 j := fun j j0 j1 => by
              rw [h6 _ _ (by omega), hO5 _ _ (by unfold Ss; omega), h474]
            have hC6 : Chain μ_270 P := hC.keep hBE6 e456 e476 (fun l hl => by
                rw [← hfr] at hl
                refine ⟨?_, ?_⟩
                · rw [h6 _ _ (by omega), hO5 _ _ (by unfold Ss; omega), S4 _ _ (by unfold Sh; omega)]
                · rw [h6 _ _ (by omega), hO5 _ _ (by unfold Ss; omega), S4 _ _ (by unfold Sh; omega)]) (fun q k q1 q2 hl => by
                rw [← hfr] at hl
                rw [h6 _ _ (by omega), hO5 _ _ (fun z => ?_), S4 _ _ (by unfold Sh; omega)]
                unfold Ss at z
                have : k ∈ H := by
                  rcases z with z | z | z | z | z | z | z | z | z | z
                  · omega
                  · omega
                  · omega
                  · omega
                  · omega
                  · omega
                  · omega
                  · omega
                  · omega
                  · exact z.2.2
                have := hHm k this
                omega)
            have e45P : μ_270 45 P = fr := by rw [h6 _ _ (by omega), hO5 _ _ (by unfold Ss; omega)]; exact h454
            have e46P : μ_270 46 P = many := by rw [h6 _ _ (by omega), hO5 _ _ (by unfold Ss; omega)]; exact h464
            have e47a : μ_270 47 (2 * P) = a := (e476 _ (by omega) (by omega)).trans ha
            have e47b : μ_270 47 (2 * P + 1) = b := (e476 _ (by omega) (by omega)).trans hb
            have e76 : μ_270 32 7 = μ1 32 7 := hBE6.1 7 (by decide) (by decide)
            have hfrP : frP μ_270 P = fr := by
              rw [hfr]
              unfold frP
              split
              · rfl
              · rw [(e456 _ (by omega) (by omega)).1, (e456 _ (by omega) (by omega)).2.1]
            have hBE46 : BE μ4 μ_270 := ⟨fun j j0 j1 => by rw [hBE6.1 j j0 j1, hBE4.1 j j0 j1], fun q j q0 q1 => by rw [hBE6.2 q j q0 q1, hBE4.2 q j q0 q1]⟩
            have hPB6 : PgB μ_270 μ_270 P a b H := PgB.keep (PgB.to hBE46 (fun k hk => by rw [h6 _ _ (by omega), hO5 _ _ (by unfold Ss; omega)]) hPB) (h6 _ _ (by omega)) (h6 _ _ (by omega)) (h6 _ _ (by omega)) (fun q k q1 q2 _ => h6 _ _ (by omega))
            have hR6 : PgR μ_270 P := by
              unfold PgR
              rw [e45P, e46P, e47a, e47b, hfrP, e76, MX_be hBE6, md_hr_tr hBE6, ← hH]
              refine ⟨rfl, ⟨hf0, hm0, hfm⟩, hne, hMX, fun l l0 l1 => ?_, hPB6⟩
              rw [md_ls_tr hBE6, h6 _ _ (by omega), hO5 _ _ (by unfold Ss; omega), h6 _ _ (by omega), hO5 _ _ (by unfold Ss; omega)]
              exact hv4' l l0 l1
            have hfrP1 : frP μ_270 (P + 1) = fr + many := by
              unfold frP
              rw [if_neg (by omega), show P + 1 - 1 = P by omega, e45P, e46P]
            have hC61 : PgC μ_270 (P + 1) := by
              obtain ⟨bits, c0, c1, xs0, xs1, g1, g2, g3, g4, g5, g6, g7, g8, g9, g10⟩ := hPB6
              have hB6 := hB1.tr hBE6
              have hrv : ∀ s, ∀ k ∈ md_rw μ_270 s bits H, 0 ≤ k ∧ k < μ_270 32 8 := fun s k hk => by
                have := hHm k (md_ro_mem hk)
                rw [hBE6.1 8 (by decide) (by decide)]
                omega
              have hdl : md_dc μ_270 a b H bits < rw_NV := by rw [(g1.fin g2).2.2]; exact g2
              have hd1 := md_add_lt hdl
              have hd2 := md_add_lt hd1.2.1
              obtain ⟨r0, r1, r2⟩ := g3.fin hd2.1
              obtain ⟨s0, s1, s2⟩ := g4.fin hd1.1
              have k0 := mr_carry_b hB6 (hrv 0) r0 r1 g5
              have k1 := mr_carry_b hB6 (hrv 1) s0 s1 g7
              rw [← g9] at k0
              rw [← g10] at k1
              have hHne : 0 < μ_270 47 (2 * P + 2) ∨ 0 < μ_270 47 (2 * P + 3) → 1 ≤ H.length ∧ 1 ≤ many := by
                intro hz
                have hne : H ≠ [] := by
                  intro e
                  rw [e] at k0 k1
                  rcases hz with z | z
                  · exact k0.2.2 z rfl
                  · exact k1.2.2 z rfl
                have h1 : 1 ≤ H.length := by cases H with | nil => exact absurd rfl hne | cons x r => simp
                refine ⟨h1, ?_⟩
                have : many ≠ 0 := fun e => by rw [e] at hH; exact hne hH
                omega
              unfold PgC
              rw [hfrP1, e76, md_hr_tr hBE6, show 2 * (P + 1) + 1 = 2 * P + 3 by omega, show 2 * (P + 1) = 2 * P + 2 by omega]
              refine ⟨⟨k0.1, k0.2.1⟩, ⟨k1.1, k1.2.1⟩, ?_, by omega, hfm⟩
              rw [show (fr + many).toNat = fr.toNat + many.toNat by omega, md_hr_app, List.length_append, show (0 : Int) + ((fr.toNat : Nat) : Int) = fr by omega, ← hH]
              by_cases hz : 0 < μ_270 47 (2 * P + 2) ∨ 0 < μ_270 47 (2 * P + 3)
              · rw [if_pos hz]
                have := hHne hz
                split at hms <;> omega
              · rw [if_neg hz]
                split at hms <;> omega
            have hC7 : Chain μ_270 (P + 1) := ⟨by omega, hC6.2.1, fun p p0 p1 => by
                by_cases e : p = P
                · rw [e]; exact hR6
                · exact hC6.2.2.1 p p0 (by omega), fun p p0 p1 => by
                by_cases e : p = P + 1
                · rw [e]; exact hC61
                · exact hC6.2.2.2 p p0 (by omega)⟩
            refine ih μ_270 (fr + many) (P + 1) _ _ _ _ _ _ (by omega) ?_ ?_ ?_ (by rw [e_270, am_ss]) hfrP1.symm hC7
            · intro q j hs
              rw [h6 _ _ (by unfold Sa at hs; omega), hO5 q j (fun z => hs (by unfold Ss at z; unfold Sa; omega)), S4 q j (fun z => hs (by unfold Sh at z; unfold Sa; omega))]
              exact hO q j hs
            · rw [h6 _ _ (by omega), hO5 _ _ (by unfold Ss; omega)]; exact h214
            · rw [h6 _ _ (by omega), hO5 _ _ (by unfold Ss; omega)]; exact h224
        have K152 : ∀ (many : Int) (μ2 : am_M), Of Sh μ1 μ2 → 0 ≤ many → fr + many ≤ μ1 32 7 → MX μ1 fr many a b → AW none 123 152 [(2, 32), (0, fr), (0, a), (0, b), (0, many), (0, 1), v6, v7] [] n μ2 (PV n (fun μ' => Of Sa μ μ' ∧ μ' 32 21 = 1 ∧ MS μ')) := by
          intro many μ2 hO2 hm0 hfm hMX
          have h212 : μ2 32 21 = 1 := (hO2 32 21 (by unfold Sh; omega)).trans h21
          have h222 : μ2 32 22 = 1 := (hO2 32 22 (by unfold Sh; omega)).trans h22
          have h232 : μ2 32 23 = P := (hO2 32 23 (by unfold Sh; omega)).trans h23
          have hl : Lay n μ2 := hl1.ofW (hO2.mono Sh_Sw)
          refine aw_iload (q := 154) mX7_setAll dX7_setAll_152 rfl rfl ?_
          refine aw_if_eq (tgt := 170) (q := 157) mX7_setAll dX7_setAll_154 rfl (by decide) (fun c_154 => ?_) (fun c_154 => ?_)
          · exact absurd c_154 (by decide)
          · refine aw_iload (q := 159) mX7_setAll dX7_setAll_157 rfl rfl ?_
            refine aw_if_ne (tgt := 176) (q := 162) mX7_setAll dX7_setAll_159 rfl (by decide) (fun c_159 => ?_) (fun c_159 => ?_)
            · exact K176 many μ2 v6 v7 hO2 h212 h222 h232 hm0 hfm hMX (Or.inl (by omega))
            · refine aw_iload_n (q := 163) mX7_setAll dX7_setAll_162 rfl rfl ?_
              refine aw_if_ne (tgt := 176) (q := 166) mX7_setAll dX7_setAll_163 rfl (by decide) (fun c_163 => ?_) (fun c_163 => ?_)
              · exact K176 many μ2 v6 v7 hO2 h212 h222 h232 hm0 hfm hMX (Or.inr (Or.inl (by omega)))
              · refine aw_iload_n (q := 167) mX7_setAll dX7_setAll_166 rfl rfl ?_
                refine aw_if_ne (tgt := 176) (q := 170) mX7_setAll dX7_setAll_167 rfl (by decide) (fun c_167 => ?_) (fun c_167 => ?_)
                · exact K176 many μ2 v6 v7 hO2 h212 h222 h232 hm0 hfm hMX (Or.inr (Or.inr (by omega)))
                · refine aw_aload_n (q := 171) mX7_setAll dX7_setAll_170 rfl rfl ?_
                  refine aw_iconst (q := 172) mX7_setAll dX7_setAll_171 rfl rfl ?_
                  refine aw_put (t := 0) (ji := 22) (q := 175) mX7_setAll dX7_setAll_172 rfl f7_223 rfl kd_32 rfl (Or.inl rfl) (by first | exact Or.inr (Or.inl rfl) | exact Or.inr (Or.inr rfl) | exact Or.inr (by assumption) | exact Or.inr (by omega)) (fun μ_172 e_172 => ?_)
                  have hl : Lay n μ_172 := by rw [e_172]; exact Lay.setF lf_32_22 hl
                  refine aw_vret mX7_setAll dX7_setAll_175 ?_
                  have hm : many = 0 := by omega
                  have ha' : a = 0 := by omega
                  have hb' : b = 0 := by omega
                  have h9 : ∀ q j, ¬ Sh q j → (q ≠ 32 ∨ j ≠ 22) → μ_172 q j = μ1 q j := fun q j z z2 => by rw [e_172, am_sn z2]; exact hO2 q j z
                  have hS : Of Sc μ1 μ_172 := fun q j hs => h9 q j (fun z => hs (Sh_Sc _ _ z)) (by unfold Sc at hs; omega)
                  have hBE7 := (hS.mono Sc_Sw).beW
                  have e23 : μ_172 32 23 = P := (h9 32 23 (by unfold Sh; omega) (by decide)).trans h23
                  have ef : frP μ_172 P = fr := by
                    rw [hfr]; unfold frP
                    rw [h9 45 _ (by unfold Sh; omega) (by omega), h9 46 _ (by unfold Sh; omega) (by omega)]
                  refine ⟨rfl, rfl, ?_, ?_, ?_⟩
                  · intro q j hs
                    rw [h9 q j (fun z => hs (by unfold Sh at z; unfold Sa; omega)) (by unfold Sa at hs; omega)]
                    exact hO q j hs
                  · rw [h9 32 21 (by unfold Sh; omega) (by decide)]; exact h21
                  · unfold MS
                    rw [e23, ef]
                    have hlt : fr < μ1 32 7 := by omega
                    refine ⟨hC.sc hS, ?_, ?_, Or.inr ⟨by rw [e_172, am_ss], ?_, ?_⟩⟩
                    · rw [h9 _ _ (by unfold Sh; omega) (by omega), ha, ha']
                    · rw [h9 _ _ (by unfold Sh; omega) (by omega), hb, hb']
                    · rw [hBE7.1 7 (by decide) (by decide)]; exact hlt
                    · rw [md_held_be hBE7]
                      have := hMX.2 (by omega)
                      rw [hm, ha', hb'] at this
                      exact this
        -- the lines
        have L : ∀ (e : Nat) (many : Int) (μ2 : am_M), 0 ≤ many → fr + many + e = μ1 32 7 → Of Sh μ1 μ2 → (∀ m, 0 < m → m ≤ many → md_held μ1 fr m a b) → AW none 123 116 [(2, 32), (0, fr), (0, a), (0, b), (0, many), (0, 1), v6, v7] [] n μ2 (PV n (fun μ' => Of Sa μ μ' ∧ μ' 32 21 = 1 ∧ MS μ')) := by
          intro e
          induction e with
          | zero =>
            intro many μ2 hm0 hme hO2 hall
            have hl : Lay n μ2 := hl1.ofW (hO2.mono Sh_Sw)
            have e72 : μ2 32 7 = μ1 32 7 := (hO2.mono Sh_Sw).beW.1 7 (by decide) (by decide)
            refine aw_iload (q := 118) mX7_setAll dX7_setAll_116 rfl rfl ?_
            refine aw_if_eq (tgt := 152) (q := 121) mX7_setAll dX7_setAll_118 rfl (by decide) (fun c_118 => ?_) (fun c_118 => ?_)
            · exact absurd c_118 (by decide)
            · refine aw_iload_n (q := 122) mX7_setAll dX7_setAll_121 rfl rfl ?_
              refine aw_iload (q := 124) mX7_setAll dX7_setAll_122 rfl rfl ?_
              refine aw_iadd (q := 125) mX7_setAll dX7_setAll_124 rfl (by omega) (by omega) ?_
              refine aw_aload_n (q := 126) mX7_setAll dX7_setAll_125 rfl rfl ?_
              refine aw_get (t := 0) (ji := 7) (q := 129) mX7_setAll dX7_setAll_126 rfl f7_133 rfl kd_32 rfl e72 ?_
              refine aw_icmp_ge (tgt := 152) (q := 132) mX7_setAll dX7_setAll_129 rfl (by decide) (fun c_129 => ?_) (fun c_129 => ?_)
              · exact K152 many μ2 hO2 hm0 (by omega) ⟨hall, fun z => by omega⟩
              · exact absurd c_129 (by omega)
          | succ e ihe =>
            intro many μ2 hm0 hme hO2 hall
            have hl2 : Lay n μ2 := hl1.ofW (hO2.mono Sh_Sw)
            have hl := hl2
            have hBE2 := (hO2.mono Sh_Sw).beW
            have e72 : μ2 32 7 = μ1 32 7 := hBE2.1 7 (by decide) (by decide)
            have hh := pX7_isHeld n μ2 fr (many + 1) a b hl2 (hB1.tr hBE2) hf0 (by omega) (by omega) hca.1 (by omega) hcb.1 (by omega)
            rw [md_held_be hBE2] at hh
            refine aw_iload (q := 118) mX7_setAll dX7_setAll_116 rfl rfl ?_
            refine aw_if_eq (tgt := 152) (q := 121) mX7_setAll dX7_setAll_118 rfl (by decide) (fun c_118 => ?_) (fun c_118 => ?_)
            · exact absurd c_118 (by decide)
            · refine aw_iload_n (q := 122) mX7_setAll dX7_setAll_121 rfl rfl ?_
              refine aw_iload (q := 124) mX7_setAll dX7_setAll_122 rfl rfl ?_
              refine aw_iadd (q := 125) mX7_setAll dX7_setAll_124 rfl (by omega) (by omega) ?_
              refine aw_aload_n (q := 126) mX7_setAll dX7_setAll_125 rfl rfl ?_
              refine aw_get (t := 0) (ji := 7) (q := 129) mX7_setAll dX7_setAll_126 rfl f7_133 rfl kd_32 rfl e72 ?_
              refine aw_icmp_ge (tgt := 152) (q := 132) mX7_setAll dX7_setAll_129 rfl (by decide) (fun c_129 => ?_) (fun c_129 => ?_)
              · exact absurd c_129 (by omega)
              · refine aw_aload_n (q := 133) mX7_setAll dX7_setAll_132 rfl rfl ?_
                refine aw_iload_n (q := 134) mX7_setAll dX7_setAll_133 rfl rfl ?_
                refine aw_iload (q := 136) mX7_setAll dX7_setAll_134 rfl rfl ?_
                refine aw_iconst (q := 137) mX7_setAll dX7_setAll_136 rfl rfl ?_
                refine aw_iadd (q := 138) mX7_setAll dX7_setAll_137 rfl (by omega) (by omega) ?_
                refine aw_iload_n (q := 139) mX7_setAll dX7_setAll_138 rfl rfl ?_
                refine aw_iload_n (q := 140) mX7_setAll dX7_setAll_139 rfl rfl ?_
                refine aw_v4 (ci := 7) (q := 143) mX7_setAll dX7_setAll_140 rfl l7_229 k123_116 rfl kd_32 rfl rfl rfl (hh) (kint (fun x μ3 hx => ?_))
                obtain ⟨hO3, hx⟩ := hx
                have hO3' : Of Sh μ1 μ3 := hO2.tr hO3
                refine aw_if_eq (tgt := 152) (q := 146) mX7_setAll dX7_setAll_143 rfl (by decide) (fun c_143 => ?_) (fun c_143 => ?_)
                · rcases hx with ⟨hx, -⟩ | ⟨hx, hx2⟩
                  · exact absurd c_143 (by omega)
                  · exact K152 many μ3 hO3' hm0 (by omega) ⟨hall, fun _ => hx2⟩
                · rcases hx with ⟨hx, hx2⟩ | ⟨hx, -⟩
                  · refine aw_iinc (q := 149) mX7_setAll dX7_setAll_146 rfl rfl (by decide) (by omega) (by omega) rfl ?_
                    refine aw_goto (q := 116) mX7_setAll dX7_setAll_149 (by decide) ?_
                    exact ihe (many + 1) μ3 (by omega) (by omega) hO3' (fun m m0 m1 => by
                      by_cases em : m = many + 1
                      · rw [em]; exact hx2
                      · exact hall m m0 (by omega))
                  · exact absurd hx c_143
        have hh := pX7_isHeld n μ1 fr 0 a b hl1 hB1 hf0 (by decide) (by omega) hca.1 (by omega) hcb.1 (by omega)
        refine aw_aload_n (q := 78) mX7_setAll dX7_setAll_77 rfl rfl ?_
        refine aw_get (t := 2) (ji := 26) (q := 81) mX7_setAll dX7_setAll_78 rfl f7_65 rfl kd_32 rfl (ly_32_26 hl) ?_
        refine aw_iconst (q := 82) mX7_setAll dX7_setAll_81 rfl rfl ?_
        refine aw_aload_n (q := 83) mX7_setAll dX7_setAll_82 rfl rfl ?_
        refine aw_get (t := 0) (ji := 23) (q := 86) mX7_setAll dX7_setAll_83 rfl f7_226 rfl kd_32 rfl h23 ?_
        refine aw_imul (q := 87) mX7_setAll dX7_setAll_86 rfl (by omega) (by omega) ?_
        refine aw_iald (q := 88) mX7_setAll dX7_setAll_87 rfl kd_47 (by omega) (by omega) ha ?_
        refine aw_istore_n (q := 89) mX7_setAll dX7_setAll_88 rfl (by decide) rfl ?_
        refine aw_aload_n (q := 90) mX7_setAll dX7_setAll_89 rfl rfl ?_
        refine aw_get (t := 2) (ji := 26) (q := 93) mX7_setAll dX7_setAll_90 rfl f7_65 rfl kd_32 rfl (ly_32_26 hl) ?_
        refine aw_iconst (q := 94) mX7_setAll dX7_setAll_93 rfl rfl ?_
        refine aw_aload_n (q := 95) mX7_setAll dX7_setAll_94 rfl rfl ?_
        refine aw_get (t := 0) (ji := 23) (q := 98) mX7_setAll dX7_setAll_95 rfl f7_226 rfl kd_32 rfl h23 ?_
        refine aw_imul (q := 99) mX7_setAll dX7_setAll_98 rfl (by omega) (by omega) ?_
        refine aw_iconst (q := 100) mX7_setAll dX7_setAll_99 rfl rfl ?_
        refine aw_iadd (q := 101) mX7_setAll dX7_setAll_100 rfl (by omega) (by omega) ?_
        refine aw_iald (q := 102) mX7_setAll dX7_setAll_101 rfl kd_47 (by omega) (by omega) hb ?_
        refine aw_istore_n (q := 103) mX7_setAll dX7_setAll_102 rfl (by decide) rfl ?_
        refine aw_iconst (q := 104) mX7_setAll dX7_setAll_103 rfl rfl ?_
        refine aw_istore (q := 106) mX7_setAll dX7_setAll_104 rfl (by decide) rfl ?_
        refine aw_aload_n (q := 107) mX7_setAll dX7_setAll_106 rfl rfl ?_
        refine aw_iload_n (q := 108) mX7_setAll dX7_setAll_107 rfl rfl ?_
        refine aw_iconst (q := 109) mX7_setAll dX7_setAll_108 rfl rfl ?_
        refine aw_iload_n (q := 110) mX7_setAll dX7_setAll_109 rfl rfl ?_
        refine aw_iload_n (q := 111) mX7_setAll dX7_setAll_110 rfl rfl ?_
        refine aw_v4 (ci := 7) (q := 114) mX7_setAll dX7_setAll_111 rfl l7_229 k123_116 rfl kd_32 rfl rfl rfl (hh) (kint (fun x μ3 hx => ?_))
        obtain ⟨hO3, hx⟩ := hx
        rcases hx with ⟨hx, -⟩ | ⟨-, hx⟩
        · rw [hx]
          refine aw_istore (q := 116) mX7_setAll dX7_setAll_114 rfl (by decide) rfl ?_
          exact L (μ1 32 7 - fr).toNat 0 μ3 (by decide) (by omega) hO3 (fun m m0 m1 => by omega)
        · exact absurd (md_held_0 hB1 fr a b) hx
      refine aw_iload_n (q := 40) mX7_setAll dX7_setAll_39 rfl rfl ?_
      refine aw_aload_n (q := 41) mX7_setAll dX7_setAll_40 rfl rfl ?_
      refine aw_get (t := 0) (ji := 7) (q := 44) mX7_setAll dX7_setAll_41 rfl f7_133 rfl kd_32 rfl rfl ?_
      refine aw_icmp_lt (tgt := 77) (q := 47) mX7_setAll dX7_setAll_44 rfl (by decide) (fun c_44 => ?_) (fun c_44 => ?_)
      · exact B (Or.inl c_44)
      · refine aw_aload_n (q := 48) mX7_setAll dX7_setAll_47 rfl rfl ?_
        refine aw_get (t := 2) (ji := 26) (q := 51) mX7_setAll dX7_setAll_48 rfl f7_65 rfl kd_32 rfl (ly_32_26 hl) ?_
        refine aw_iconst (q := 52) mX7_setAll dX7_setAll_51 rfl rfl ?_
        refine aw_aload_n (q := 53) mX7_setAll dX7_setAll_52 rfl rfl ?_
        refine aw_get (t := 0) (ji := 23) (q := 56) mX7_setAll dX7_setAll_53 rfl f7_226 rfl kd_32 rfl h23 ?_
        refine aw_imul (q := 57) mX7_setAll dX7_setAll_56 rfl (by omega) (by omega) ?_
        refine aw_iald (q := 58) mX7_setAll dX7_setAll_57 rfl kd_47 (by omega) (by omega) ha ?_
        refine aw_if_gt (tgt := 77) (q := 61) mX7_setAll dX7_setAll_58 rfl (by decide) (fun c_58 => ?_) (fun c_58 => ?_)
        · exact B (Or.inr (Or.inl c_58))
        · refine aw_aload_n (q := 62) mX7_setAll dX7_setAll_61 rfl rfl ?_
          refine aw_get (t := 2) (ji := 26) (q := 65) mX7_setAll dX7_setAll_62 rfl f7_65 rfl kd_32 rfl (ly_32_26 hl) ?_
          refine aw_iconst (q := 66) mX7_setAll dX7_setAll_65 rfl rfl ?_
          refine aw_aload_n (q := 67) mX7_setAll dX7_setAll_66 rfl rfl ?_
          refine aw_get (t := 0) (ji := 23) (q := 70) mX7_setAll dX7_setAll_67 rfl f7_226 rfl kd_32 rfl h23 ?_
          refine aw_imul (q := 71) mX7_setAll dX7_setAll_70 rfl (by omega) (by omega) ?_
          refine aw_iconst (q := 72) mX7_setAll dX7_setAll_71 rfl rfl ?_
          refine aw_iadd (q := 73) mX7_setAll dX7_setAll_72 rfl (by omega) (by omega) ?_
          refine aw_iald (q := 74) mX7_setAll dX7_setAll_73 rfl kd_47 (by omega) (by omega) hb ?_
          refine aw_if_le (tgt := 276) (q := 77) mX7_setAll dX7_setAll_74 rfl (by decide) (fun c_74 => ?_) (fun c_74 => ?_)
          · refine aw_vret mX7_setAll dX7_setAll_276 ?_
            refine ⟨rfl, rfl, hO, h21, ?_⟩
            unfold MS
            rw [h23, ← hfr, ha, hb]
            exact ⟨hC, by omega, by omega, Or.inl ⟨h22, by omega⟩⟩
          · exact B (Or.inr (Or.inr (by omega)))
  refine AC.of rfl ?_
  rcases hset with ⟨h21, hMS⟩ | h21
  · refine aw_aload_n (q := 1) mX7_setAll dX7_setAll_0 rfl rfl ?_
    refine aw_get (t := 0) (ji := 21) (q := 4) mX7_setAll dX7_setAll_1 rfl f7_129 rfl kd_32 rfl h21 ?_
    refine aw_if_eq (tgt := 8) (q := 7) mX7_setAll dX7_setAll_4 rfl (by decide) (fun c_4 => ?_) (fun c_4 => ?_)
    · exact absurd c_4 (by decide)
    · refine aw_vret mX7_setAll dX7_setAll_7 ?_
      exact ⟨rfl, rfl, Of.rf, h21, hMS⟩
  · refine aw_aload_n (q := 1) mX7_setAll dX7_setAll_0 rfl rfl ?_
    refine aw_get (t := 0) (ji := 21) (q := 4) mX7_setAll dX7_setAll_1 rfl f7_129 rfl kd_32 rfl h21 ?_
    refine aw_if_eq (tgt := 8) (q := 7) mX7_setAll dX7_setAll_4 rfl (by decide) (fun c_4 => ?_) (fun c_4 => ?_)
    · refine aw_aload_n (q := 9) mX7_setAll dX7_setAll_8 rfl rfl ?_
      refine aw_iconst (q := 10) mX7_setAll dX7_setAll_9 rfl rfl ?_
      refine aw_put (t := 0) (ji := 21) (q := 13) mX7_setAll dX7_setAll_10 rfl f7_129 rfl kd_32 rfl (Or.inl rfl) (by first | exact Or.inr (Or.inl rfl) | exact Or.inr (Or.inr rfl) | exact Or.inr (by assumption) | exact Or.inr (by omega)) (fun μ_10 e_10 => ?_)
      have hl : Lay n μ_10 := by rw [e_10]; exact Lay.setF lf_32_21 hl
      refine aw_aload_n (q := 14) mX7_setAll dX7_setAll_13 rfl rfl ?_
      refine aw_iconst (q := 15) mX7_setAll dX7_setAll_14 rfl rfl ?_
      refine aw_put (t := 0) (ji := 22) (q := 18) mX7_setAll dX7_setAll_15 rfl f7_223 rfl kd_32 rfl (Or.inl rfl) (by first | exact Or.inr (Or.inl rfl) | exact Or.inr (Or.inr rfl) | exact Or.inr (by assumption) | exact Or.inr (by omega)) (fun μ_15 e_15 => ?_)
      have hl : Lay n μ_15 := by rw [e_15]; exact Lay.setF lf_32_22 hl
      refine aw_aload_n (q := 19) mX7_setAll dX7_setAll_18 rfl rfl ?_
      refine aw_iconst (q := 20) mX7_setAll dX7_setAll_19 rfl rfl ?_
      refine aw_put (t := 0) (ji := 23) (q := 23) mX7_setAll dX7_setAll_20 rfl f7_226 rfl kd_32 rfl (Or.inl rfl) (Or.inl (by decide)) (fun μ_20 e_20 => ?_)
      have hl : Lay n μ_20 := by rw [e_20]; exact Lay.setF lf_32_23 hl
      refine aw_iconst (q := 24) mX7_setAll dX7_setAll_23 rfl rfl ?_
      refine aw_istore_n (q := 25) mX7_setAll dX7_setAll_24 rfl (by decide) rfl ?_
      refine aw_aload_n (q := 26) mX7_setAll dX7_setAll_25 rfl rfl ?_
      refine aw_get (t := 2) (ji := 26) (q := 29) mX7_setAll dX7_setAll_26 rfl f7_65 rfl kd_32 rfl (ly_32_26 hl) ?_
      refine aw_iconst (q := 30) mX7_setAll dX7_setAll_29 rfl rfl ?_
      refine aw_iconst (q := 31) mX7_setAll dX7_setAll_30 rfl rfl ?_
      refine aw_iast (q := 32) mX7_setAll dX7_setAll_31 rfl kd_47 (by omega) (by omega) (fun μ_31 e_31 => ?_)
      have hl : Lay n μ_31 := by rw [e_31]; exact Lay.setA la_47 hl
      refine aw_aload_n (q := 33) mX7_setAll dX7_setAll_32 rfl rfl ?_
      refine aw_get (t := 2) (ji := 26) (q := 36) mX7_setAll dX7_setAll_33 rfl f7_65 rfl kd_32 rfl (ly_32_26 hl) ?_
      refine aw_iconst (q := 37) mX7_setAll dX7_setAll_36 rfl rfl ?_
      refine aw_iconst (q := 38) mX7_setAll dX7_setAll_37 rfl rfl ?_
      refine aw_iast (q := 39) mX7_setAll dX7_setAll_38 rfl kd_47 (by omega) (by omega) (fun μ_38 e_38 => ?_)
      have hl : Lay n μ_38 := by rw [e_38]; exact Lay.setA la_47 hl
      have hS : ∀ q j, (q ≠ 32 ∨ (j ≠ 21 ∧ j ≠ 22 ∧ j ≠ 23)) → (q ≠ 47 ∨ (j ≠ 0 ∧ j ≠ 1)) → μ_38 q j = μ q j := fun q j z z2 => by
        rw [e_38, am_sn (by omega), e_31, am_sn (by omega), e_20, am_sn (by omega), e_15, am_sn (by omega), e_10, am_sn (by omega)]
      have e21 : μ_38 32 21 = 1 := by rw [e_38, am_sn (by omega), e_31, am_sn (by omega), e_20, am_sn (by omega), e_15, am_sn (by omega), e_10, am_ss]
      have e22 : μ_38 32 22 = 1 := by rw [e_38, am_sn (by omega), e_31, am_sn (by omega), e_20, am_sn (by omega), e_15, am_ss]
      have e23 : μ_38 32 23 = 0 := by rw [e_38, am_sn (by omega), e_31, am_sn (by omega), e_20, am_ss]
      have e470 : μ_38 47 0 = 0 := by rw [e_38, am_sn (by omega), e_31, am_ss]
      have e471 : μ_38 47 1 = 0 := by rw [e_38, am_ss]
      have e7 : μ_38 32 7 = μ 32 7 := hS 32 7 (by omega) (by omega)
      refine G 85 μ_38 0 0 _ _ _ _ _ _ (by decide) (fun q j hs => hS q j (by unfold Sa at hs; omega) (by unfold Sa at hs; omega)) e21 e22 e23 rfl ⟨by decide, ⟨e470, e471⟩, fun p p0 p1 => by omega, fun p p0 p1 => ?_⟩
      have : p = 0 := by omega
      rw [this]
      refine ⟨?_, ?_, ?_, Int.le_refl _, ?_⟩
      · show 0 ≤ μ_38 47 0 ∧ μ_38 47 0 ≤ 100; rw [e470]; decide
      · show 0 ≤ μ_38 47 1 ∧ μ_38 47 1 ≤ 100; rw [e471]; decide
      · show 0 + (if 0 < μ_38 47 0 ∨ 0 < μ_38 47 1 then 1 else 0) ≤ (0 : Int) + 0
        rw [e470, e471]; decide
      · show 0 ≤ μ_38 32 7; omega
    · exact absurd rfl c_4
def md_lk (μ : am_M) : Prop := μ 32 22 = 0
theorem pX7_lacks (n : Nat) (μ : am_M) (hl0 : Lay n μ) (hB : Bk μ) (hset : (μ 32 21 = 1 ∧ MS μ) ∨ μ 32 21 = 0) : AC 124 [(2, 32)] n μ (PI n (fun x μ' => Of Sa μ μ' ∧ μ' 32 21 = 1 ∧ MS μ' ∧ ((x = 1 ∧ μ' 32 22 = 0) ∨ (x = 0 ∧ μ' 32 22 = 1)))) := by
  refine AC.of rfl ?_
  refine aw_aload_n (q := 1) mX7_lacks dX7_lacks_0 rfl rfl ?_
  refine aw_v0 (ci := 7) (q := 4) mX7_lacks dX7_lacks_1 rfl l7_236 k124_123 rfl kd_32 rfl rfl rfl (pX7_setAll n μ hl0 hB hset) (kvoid (fun μ1 hq => ?_))
  obtain ⟨hO, h21, hM⟩ := hq
  have hl : Lay n μ1 := hl0.ofW (hO.mono Sa_Sw)
  refine aw_aload_n (q := 5) mX7_lacks dX7_lacks_4 rfl rfl ?_
  refine aw_get (t := 0) (ji := 22) (q := 8) mX7_lacks dX7_lacks_5 rfl f7_223 rfl kd_32 rfl rfl ?_
  refine aw_if_ne (tgt := 15) (q := 11) mX7_lacks dX7_lacks_8 rfl (by decide) (fun c_8 => ?_) (fun c_8 => ?_)
  · refine aw_iconst (q := 16) mX7_lacks dX7_lacks_15 rfl rfl ?_
    refine aw_zret mX7_lacks dX7_lacks_16 (by first | exact Or.inl rfl | exact Or.inr rfl | assumption | omega) ?_
    rcases id hM.2.2.2 with ⟨h, -⟩ | ⟨h, -⟩
    · exact ⟨_, rfl, rfl, hO, h21, hM, Or.inr ⟨rfl, h⟩⟩
    · exact absurd h c_8
  · refine aw_iconst (q := 12) mX7_lacks dX7_lacks_11 rfl rfl ?_
    refine aw_goto (q := 16) mX7_lacks dX7_lacks_12 (by decide) ?_
    refine aw_zret mX7_lacks dX7_lacks_16 (by first | exact Or.inl rfl | exact Or.inr rfl | assumption | omega) ?_
    exact ⟨_, rfl, rfl, hO, h21, hM, Or.inl ⟨rfl, by omega⟩⟩

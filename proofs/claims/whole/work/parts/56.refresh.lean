/-! the class's Breaks: refresh -/
theorem MS_ex {n : Nat} {μ : am_M} (hl : Lay n μ) (hB : Bk μ) : ∃ m, BE μ m ∧ MS m := by
  have hO : Of Sa μ (am_set μ 32 21 0) := Of.rf.set (Or.inr ⟨rfl, Or.inl rfl⟩)
  have hl0 : Lay n (am_set μ 32 21 0) := hl.ofW (hO.mono Sa_Sw)
  have hBE := (hO.mono Sa_Sw).beW
  obtain ⟨f, r, n', μ', -, -, -, h3, -, h5⟩ := pX7_setAll n (am_set μ 32 21 0) hl0 (hB.tr hBE) (Or.inr am_ss)
  exact ⟨μ', hBE.trans (h3.mono Sa_Sw).beW, h5⟩
/-- the pages as the class holds them are m's -/
def Cls (μ m : am_M) : Prop := μ 4 3 = m 32 23 ∧ μ 4 4 = m 32 22 ∧ (∀ p, 0 ≤ p → p < m 32 23 → Cq μ m p) ∧ Cl μ m 0 (frP m (m 32 23)) ∧ Cn μ m (md_hr m 0 (frP m (m 32 23)).toNat) ∧ Ar μ 16 ((md_hr m 0 (m 32 7).toNat).map nf) ∧ μ 15 1 = ((md_hr m 0 (m 32 7).toNat).length : Int)
theorem frP_succ {m : am_M} {P : Int} (h : 0 ≤ P) : frP m (P + 1) = m 45 P + m 46 P := by
  unfold frP
  rw [if_neg (by omega), show P + 1 - 1 = P by omega]
theorem pX1_refresh (n : Nat) (μ : am_M) (hl0 : Lay n μ) (hB : Bk μ) (hC : Cb n μ) (hst : μ 4 5 = 1 ∨ (μ 4 5 = 0 ∧ ∃ m, BE μ m ∧ MS m ∧ Cls μ m)) : AC 8 [(2, 4)] n μ (PV n (fun μ' => Of Sk μ μ' ∧ μ' 4 5 = 0 ∧ ∃ m, BE μ m ∧ MS m ∧ Cls μ' m)) := by
  rcases hst with hst | ⟨hst, m, hb, hM, hCl⟩
  rotate_left
  · have hl := hl0
    refine AC.of rfl ?_
    refine aw_aload_n (q := 1) mX1_refresh dX1_refresh_0 rfl rfl ?_
    refine aw_get (t := 0) (ji := 5) (q := 4) mX1_refresh dX1_refresh_1 rfl f1_25 rfl kd_4 rfl hst ?_
    refine aw_if_ne (tgt := 8) (q := 7) mX1_refresh dX1_refresh_4 rfl (by decide) (fun c_4 => ?_) (fun c_4 => ?_)
    · exact absurd rfl c_4
    · refine aw_vret mX1_refresh dX1_refresh_7 ?_
      exact ⟨rfl, rfl, Of.rf, hst, m, hb, hM, hCl⟩
  obtain ⟨m, hb, hM⟩ := MS_ex hl0 hB
  have hBm : Bk m := hB.tr hb
  have hQ := hM.pages hBm
  obtain ⟨hch, hz0, hz1, hend⟩ := id hM
  obtain ⟨hQ0, ⟨hca, hcb⟩, hpg, hpc⟩ := id hch
  obtain ⟨b1, b2, b3, b4, b5, b6, b7, b8, b9⟩ := id hB
  obtain ⟨cn, ⟨c2, c3, c4, c5, c6, c7, c8⟩, chh, ck⟩ := id hC
  have e7 : m 32 7 = μ 32 7 := hb.1 7 (by decide) (by decide)
  have e8 : m 32 8 = μ 32 8 := hb.1 8 (by decide) (by decide)
  obtain ⟨PP, hPP⟩ : ∃ P : Option am_V → Nat → am_M → Prop, P = PV n (fun μ' => Of Sk μ μ' ∧ μ' 4 5 = 0 ∧ ∃ m, BE μ m ∧ MS m ∧ Cls μ' m) := ⟨_, rfl⟩
  rw [← hPP]
  have hOl : (md_hr m 0 (m 32 7).toNat).length ≤ 24 := Nat.le_trans md_hr_le (by omega)
  have hOv : ∀ k ∈ md_hr m 0 (m 32 7).toNat, 0 ≤ k ∧ k < μ 32 8 := fun k hk => by have := md_hr_mem hk; omega
  have L : ∀ (d : Nat) (P : Int) (μ1 : am_M) (v3 : am_V), 0 ≤ P → P + d = m 32 23 → Of Sk μ μ1 → μ1 4 5 = 0 → μ1 4 4 = 1 → μ1 4 3 = P → (∀ p, 0 ≤ p → p < P → Cq μ1 m p) → Cl μ1 m 0 (frP m P) → Cn μ1 m (md_hr m 0 (frP m P).toNat) → Ar μ1 16 ((md_hr m 0 (m 32 7).toNat).map nf) → μ1 15 1 = ((md_hr m 0 (m 32 7).toNat).length : Int) → μ1 18 11 = m 47 (2 * P) → μ1 25 11 = m 47 (2 * P + 1) → μ1 17 3 = ((md_hr m 0 (frP m P).toNat).length : Int) → AW none 8 45 [(2, 4), (0, frP m P), (0, P), v3] [] n μ1 PP := by
    intro d
    induction d with
    | zero =>
      intro P μ1 v3 hP0 hPd hO h45 h44 h43 hq hcl hcn hA16 h15 h18 h25 h173
      have hPQ : P = m 32 23 := by omega
      have hl : Lay n μ1 := hl0.ofK hO
      have hBE := hO.kbe (fun a j z => z)
      have e2 : μ1 1 2 = μ 32 7 := (hO 1 2 (by unfold Sk; omega)).trans c2
      rw [hPQ, hz0] at h18
      rw [hPQ, hz1] at h25
      have hcar := pX5_carries n μ1 hl
      rw [h18, h25] at hcar
      obtain ⟨k1, k2, k3, k4, k5⟩ := hpc P hP0 (by omega)
      -- done
      have D : ∀ μ2, μ2 = μ1 → m 32 22 = 1 → PP none n μ2 := fun μ2 h2 h22 => by
        rw [hPP, h2]
        refine ⟨rfl, rfl, hO, h45, m, hb, hM, ?_⟩
        refine ⟨by rw [h43, hPQ], by rw [h44, h22], by rw [← hPQ]; exact hq, by rw [← hPQ]; exact hcl, by rw [← hPQ]; exact hcn, hA16, h15⟩
      rcases hend with ⟨h22, hfr⟩ | ⟨h22, hfr, hnh⟩
      · rw [← hPQ] at hfr
        refine aw_iload_n (q := 46) mX1_refresh dX1_refresh_45 rfl rfl ?_
        refine aw_bipush (q := 48) mX1_refresh dX1_refresh_46 rfl rfl ?_
        refine aw_icmp_ge (tgt := 121) (q := 51) mX1_refresh dX1_refresh_48 rfl (by decide) (fun c_48 => ?_) (fun c_48 => ?_)
        · refine aw_vret mX1_refresh dX1_refresh_121 ?_
          exact D μ1 rfl h22
        · refine aw_iload_n (q := 52) mX1_refresh dX1_refresh_51 rfl rfl ?_
          refine aw_aload_n (q := 53) mX1_refresh dX1_refresh_52 rfl rfl ?_
          refine aw_get (t := 2) (ji := 11) (q := 56) mX1_refresh dX1_refresh_53 rfl f1_52 rfl kd_4 rfl (ly_4_11 hl) ?_
          refine aw_get (t := 0) (ji := 2) (q := 59) mX1_refresh dX1_refresh_56 rfl f1_76 rfl kd_1 rfl e2 ?_
          refine aw_icmp_lt (tgt := 72) (q := 62) mX1_refresh dX1_refresh_59 rfl (by decide) (fun c_59 => ?_) (fun c_59 => ?_)
          · exact absurd c_59 (by omega)
          · refine aw_aload_n (q := 63) mX1_refresh dX1_refresh_62 rfl rfl ?_
            refine aw_get (t := 2) (ji := 13) (q := 66) mX1_refresh dX1_refresh_63 rfl f1_61 rfl kd_4 rfl (ly_4_13 hl) ?_
            refine aw_v0 (ci := 5) (q := 69) mX1_refresh dX1_refresh_66 rfl l1_81 k8_43 rfl kd_17 rfl rfl rfl (hcar) (kint (fun y μ3 hy => ?_))
            obtain ⟨hm3, hy⟩ := hy
            subst hm3
            refine aw_if_eq (tgt := 121) (q := 72) mX1_refresh dX1_refresh_69 rfl (by decide) (fun c_69 => ?_) (fun c_69 => ?_)
            · refine aw_vret mX1_refresh dX1_refresh_121 ?_
              exact D _ rfl h22
            · rcases hy with ⟨-, y2⟩ | ⟨y1, -⟩
              · omega
              · exact absurd y1 c_69
      · rw [← hPQ] at hfr hnh
        have hhl := md_hr_le (μ := m) (fr := 0) (m := (frP m P).toNat)
        have hbp := pX5_beginPage n μ1 hl
        refine aw_iload_n (q := 46) mX1_refresh dX1_refresh_45 rfl rfl ?_
        refine aw_bipush (q := 48) mX1_refresh dX1_refresh_46 rfl rfl ?_
        refine aw_icmp_ge (tgt := 121) (q := 51) mX1_refresh dX1_refresh_48 rfl (by decide) (fun c_48 => ?_) (fun c_48 => ?_)
        · exact absurd c_48 (by split at k3 <;> omega)
        · refine aw_iload_n (q := 52) mX1_refresh dX1_refresh_51 rfl rfl ?_
          refine aw_aload_n (q := 53) mX1_refresh dX1_refresh_52 rfl rfl ?_
          refine aw_get (t := 2) (ji := 11) (q := 56) mX1_refresh dX1_refresh_53 rfl f1_52 rfl kd_4 rfl (ly_4_11 hl) ?_
          refine aw_get (t := 0) (ji := 2) (q := 59) mX1_refresh dX1_refresh_56 rfl f1_76 rfl kd_1 rfl e2 ?_
          refine aw_icmp_lt (tgt := 72) (q := 62) mX1_refresh dX1_refresh_59 rfl (by decide) (fun c_59 => ?_) (fun c_59 => ?_)
          · refine aw_aload_n (q := 73) mX1_refresh dX1_refresh_72 rfl rfl ?_
            refine aw_get (t := 2) (ji := 13) (q := 76) mX1_refresh dX1_refresh_73 rfl f1_61 rfl kd_4 rfl (ly_4_13 hl) ?_
            refine aw_v0 (ci := 5) (q := 79) mX1_refresh dX1_refresh_76 rfl l1_85 k8_42 rfl kd_17 rfl rfl rfl (hbp) (kvoid (fun μ2 h2 => ?_))
            obtain ⟨q1, q2, q3, q4⟩ := h2
            have hO2 : Of Sk μ μ2 := hO.tr (q1.mono Sbp_Sk)
            have hl2 : Lay n μ2 := hl0.ofK hO2
            have hBE2 := hO2.kbe (fun a j z => z)
            have hb2 : BE μ2 m := hBE2.symm.trans hb
            have hhr : ∀ f k, md_hr μ2 f k = md_hr m f k := fun f k => (md_hr_tr hb2 f k).symm
            have e27 : μ2 32 7 = μ 32 7 := hBE2.1 7 (by decide) (by decide)
            have hsplit : md_hr m 0 (m 32 7).toNat = md_hr m 0 (frP m P).toNat ++ md_hr m (frP m P) (μ 32 7 - frP m P).toNat := by
              have := md_hr_app (μ := m) (fr := 0) (m := (frP m P).toNat) (μ 32 7 - frP m P).toNat
              rw [show (0 : Int) + (((frP m P).toNat : Nat) : Int) = frP m P by omega] at this
              rw [← this]
              congr 1
              omega
            have hPh : Ph n μ2 (md_hr μ2 0 (frP m P).toNat) [] (md_hr μ2 (frP m P) (μ2 32 7 - frP m P).toNat) := by
              rw [hhr, hhr, e27]
              refine ⟨?_, ?_, ?_, ?_, ?_, ?_, by rw [q3]; rfl⟩
              · rw [List.append_nil, ← hsplit]; exact hA16.to (fun j => q1 16 j (by unfold Sbp; omega))
              · rw [List.append_nil, ← hsplit, q1 15 1 (by unfold Sbp; omega)]; exact h15
              · rw [List.append_nil, ← hsplit]; exact hOl
              · rw [List.append_nil, ← hsplit, hBE2.1 8 (by decide) (by decide)]; exact hOv
              · rw [q2]; exact h173
              · rw [List.append_nil, q1 17 3 (by unfold Sbp; omega)]; exact h173
            have htl := pX1_takeLines n μ2 (frP m P) 0 0 hl2 (hB.tr hBE2) (hC.k hO2 (fun a j z => z)) k4 (by omega) hPh ⟨(q1 18 11 (by unfold Sbp; omega)).trans h18, by omega⟩ ⟨(q1 25 11 (by unfold Sbp; omega)).trans h25, by omega⟩ q4
            have hl := hl2
            refine aw_aload_n (q := 80) mX1_refresh dX1_refresh_79 rfl rfl ?_
            refine aw_iload_n (q := 81) mX1_refresh dX1_refresh_80 rfl rfl ?_
            refine aw_v1 (ci := 1) (q := 84) mX1_refresh dX1_refresh_81 rfl l1_88 k8_10 rfl kd_4 rfl rfl rfl (htl) (kint (fun x μ3 hx => ?_))
            obtain ⟨r1, r2, r3, r4, -⟩ := hx
            have hxe : x = frP m P := by
              rcases Int.lt_or_le (frP m P) x with c | c
              · exfalso
                have := r4.1 1 (by omega) (by omega)
                rw [← md_held_be hb2] at this
                exact hnh this
              · omega
            subst hxe
            have hO3 : Of Sk μ μ3 := hO2.tr (r1.mono Stn_Sk)
            have hl3 : Lay n μ3 := hl0.ofK hO3
            have hl := hl3
            have hcar3 := pX5_carries n μ3 hl3
            rw [(r1 18 11 (by unfold Stn Sdl Sd; omega)).trans ((q1 18 11 (by unfold Sbp; omega)).trans h18), (r1 25 11 (by unfold Stn Sdl Sd; omega)).trans ((q1 25 11 (by unfold Sbp; omega)).trans h25)] at hcar3
            refine aw_istore_n (q := 85) mX1_refresh dX1_refresh_84 rfl (by decide) rfl ?_
            refine aw_iload_n (q := 86) mX1_refresh dX1_refresh_85 rfl rfl ?_
            refine aw_iload_n (q := 87) mX1_refresh dX1_refresh_86 rfl rfl ?_
            refine aw_icmp_ne (tgt := 106) (q := 90) mX1_refresh dX1_refresh_87 rfl (by decide) (fun c_87 => ?_) (fun c_87 => ?_)
            · exact absurd rfl c_87
            · refine aw_aload_n (q := 91) mX1_refresh dX1_refresh_90 rfl rfl ?_
              refine aw_get (t := 2) (ji := 13) (q := 94) mX1_refresh dX1_refresh_91 rfl f1_61 rfl kd_4 rfl (ly_4_13 hl) ?_
              refine aw_v0 (ci := 5) (q := 97) mX1_refresh dX1_refresh_94 rfl l1_81 k8_43 rfl kd_17 rfl rfl rfl (hcar3) (kint (fun y μ5 hy => ?_))
              obtain ⟨hm3, hy⟩ := hy
              subst hm3
              refine aw_if_ne (tgt := 106) (q := 100) mX1_refresh dX1_refresh_97 rfl (by decide) (fun c_97 => ?_) (fun c_97 => ?_)
              · rcases hy with ⟨-, y2⟩ | ⟨y1, -⟩
                · omega
                · exact absurd y1 c_97
              · refine aw_aload_n (q := 101) mX1_refresh dX1_refresh_100 rfl rfl ?_
                refine aw_iconst (q := 102) mX1_refresh dX1_refresh_101 rfl rfl ?_
                refine aw_put (t := 0) (ji := 4) (q := 105) mX1_refresh dX1_refresh_102 rfl f1_21 rfl kd_4 rfl (Or.inl rfl) (by first | exact Or.inr (Or.inl rfl) | exact Or.inr (Or.inr rfl) | exact Or.inr (by assumption) | exact Or.inr (by omega)) (fun μ_102 e_102 => ?_)
                have hl : Lay n μ_102 := by rw [e_102]; exact Lay.setF lf_4_4 hl
                refine aw_vret mX1_refresh dX1_refresh_105 ?_
                rw [hPP]
                have keep : ∀ a j, a ≠ 4 → a ≠ 17 → (a < 18 ∨ 31 < a) → μ_102 a j = μ1 a j := fun a j h1 h2 h3 => by
                  rw [e_102, am_sn (Or.inl h1), r1 a j (by unfold Stn Sdl Sd; omega), q1 a j (by unfold Sbp; omega)]
                have keepN : ∀ k j, 0 ≤ k → μ_102 (nf k) j = μ1 (nf k) j := fun k j hk => keep (nf k) j (by unfold nf; omega) (by unfold nf; omega) (by unfold nf; omega)
                have h4 : ∀ j, j ≠ 4 → μ_102 4 j = μ1 4 j := fun j hj => by
                  rw [e_102, am_sn (Or.inr hj), r1 4 j (by unfold Stn Sdl Sd; omega), q1 4 j (by unfold Sbp; omega)]
                refine ⟨rfl, rfl, by rw [e_102]; exact hO3.set (by unfold Sk; omega), by rw [h4 5 (by decide)]; exact h45, m, hb, hM, ?_⟩
                refine ⟨by rw [h4 3 (by decide), h43, hPQ], by rw [e_102, am_ss, h22], fun p p0 p1 => ?_, fun l l0 l1 => ?_, fun k hk => ?_, ?_, ?_⟩
                · have := hq p p0 (by omega)
                  unfold Cq at this ⊢
                  rw [keep 8 p (by decide) (by decide) (by decide), keep 9 p (by decide) (by decide) (by decide), keep 7 p (by decide) (by decide) (by decide), keep 13 p (by decide) (by decide) (by decide), keep 14 p (by decide) (by decide) (by decide), keep 10 p (by decide) (by decide) (by decide), keep 11 p (by decide) (by decide) (by decide)]
                  exact this
                · rw [keep 6 l (by decide) (by decide) (by decide), keep 5 l (by decide) (by decide) (by decide)]
                  exact hcl l l0 (by rw [hPQ]; exact l1)
                · have hk0 := (md_hr_mem hk).1
                  rw [keepN k 11 hk0, keepN k 12 hk0, keepN k 13 hk0, keepN k 14 hk0]
                  exact hcn k (by rw [hPQ]; exact hk)
                · exact hA16.to (fun j => keep 16 j (by decide) (by decide) (by decide))
                · rw [keep 15 1 (by decide) (by decide) (by decide)]; exact h15
          · exact absurd c_59 (by omega)
    | succ d ih =>
      intro P μ1 v3 hP0 hPd hO h45 h44 h43 hq hcl hcn hA16 h15 h18 h25 h173
      have hl : Lay n μ1 := hl0.ofK hO
      have hBE := hO.kbe (fun a j z => z)
      have e2 : μ1 1 2 = μ 32 7 := (hO 1 2 (by unfold Sk; omega)).trans c2
      have hcar := pX5_carries n μ1 hl
      rw [h18, h25] at hcar
      have hR := hpg P hP0 (by omega)
      obtain ⟨g1, g2, g3, g4, g5, g6⟩ := id hR
      obtain ⟨k1, k2, k3, k4, k5⟩ := hpc P hP0 (by omega)
      have hbp := pX5_beginPage n μ1 hl
      obtain ⟨a, ha⟩ : ∃ a, a = m 47 (2 * P) := ⟨_, rfl⟩
      obtain ⟨b, hb'⟩ : ∃ b, b = m 47 (2 * P + 1) := ⟨_, rfl⟩
      rw [← ha] at h18 g3 g4 k1 hcar
      rw [← hb'] at h25 g3 g4 k2 hcar
      obtain ⟨fr, hfr⟩ : ∃ fr, fr = frP m P := ⟨_, rfl⟩
      rw [← hfr] at hcl hcn h173 g1 k4 k5 ⊢
      -- a page is laid
      have B : AW none 8 72 [(2, 4), (0, fr), (0, P), v3] [] n μ1 PP := by
        refine aw_aload_n (q := 73) mX1_refresh dX1_refresh_72 rfl rfl ?_
        refine aw_get (t := 2) (ji := 13) (q := 76) mX1_refresh dX1_refresh_73 rfl f1_61 rfl kd_4 rfl (ly_4_13 hl) ?_
        refine aw_v0 (ci := 5) (q := 79) mX1_refresh dX1_refresh_76 rfl l1_85 k8_42 rfl kd_17 rfl rfl rfl (hbp) (kvoid (fun μ2 h2 => ?_))
        obtain ⟨q1, q2, q3, q4⟩ := h2
        have hO2 : Of Sk μ μ2 := hO.tr (q1.mono Sbp_Sk)
        have hl2 : Lay n μ2 := hl0.ofK hO2
        have hBE2 := hO2.kbe (fun a j z => z)
        have hb2 : BE μ2 m := hBE2.symm.trans hb
        have hhr : ∀ f k, md_hr μ2 f k = md_hr m f k := fun f k => (md_hr_tr hb2 f k).symm
        have e27 : μ2 32 7 = μ 32 7 := hBE2.1 7 (by decide) (by decide)
        have hsplit : md_hr m 0 (m 32 7).toNat = md_hr m 0 fr.toNat ++ md_hr m fr (μ 32 7 - fr).toNat := by
          have := md_hr_app (μ := m) (fr := 0) (m := fr.toNat) (μ 32 7 - fr).toNat
          rw [show (0 : Int) + ((fr.toNat : Nat) : Int) = fr by omega] at this
          rw [← this]
          congr 1
          omega
        have hPh : Ph n μ2 (md_hr μ2 0 fr.toNat) [] (md_hr μ2 fr (μ2 32 7 - fr).toNat) := by
          rw [hhr, hhr, e27]
          refine ⟨?_, ?_, ?_, ?_, ?_, ?_, by rw [q3]; rfl⟩
          · rw [List.append_nil, ← hsplit]; exact hA16.to (fun j => q1 16 j (by unfold Sbp; omega))
          · rw [List.append_nil, ← hsplit, q1 15 1 (by unfold Sbp; omega)]; exact h15
          · rw [List.append_nil, ← hsplit]; exact hOl
          · rw [List.append_nil, ← hsplit, hBE2.1 8 (by decide) (by decide)]; exact hOv
          · rw [q2]; exact h173
          · rw [List.append_nil, q1 17 3 (by unfold Sbp; omega)]; exact h173
        have htl := pX1_takeLines n μ2 fr a b hl2 (hB.tr hBE2) (hC.k hO2 (fun a j z => z)) k4 (by omega) hPh ⟨(q1 18 11 (by unfold Sbp; omega)).trans h18, by omega⟩ ⟨(q1 25 11 (by unfold Sbp; omega)).trans h25, by omega⟩ q4
        have hl := hl2
        refine aw_aload_n (q := 80) mX1_refresh dX1_refresh_79 rfl rfl ?_
        refine aw_iload_n (q := 81) mX1_refresh dX1_refresh_80 rfl rfl ?_
        refine aw_v1 (ci := 1) (q := 84) mX1_refresh dX1_refresh_81 rfl l1_88 k8_10 rfl kd_4 rfl rfl rfl (htl) (kint (fun x μ3 hx => ?_))
        obtain ⟨r1, r2, r3, r4, r5, r6, r7⟩ := hx
        rw [← MX_be hb2] at r4
        rw [e27] at r3 r5
        have hx46 : x - fr = m 46 P := MX_uniq r4 (by rw [← g1]; exact g4) (by omega) g2.2.1 (by omega) (by omega)
        have hO3 : Of Sk μ μ3 := hO2.tr (r1.mono Stn_Sk)
        have hl3 : Lay n μ3 := hl0.ofK hO3
        have hBE3 := hO3.kbe (fun a j z => z)
        have hb3 : BE μ3 m := hBE3.symm.trans hb
        have hBE23 := r1.kbe Stn_Sk
        rw [hhr, hhr, hhr] at r5
        rw [hhr] at r6 r7
        have ea3 : μ3 18 11 = a := (r1 18 11 (by unfold Stn Sdl Sd; omega)).trans ((q1 18 11 (by unfold Sbp; omega)).trans h18)
        have eb3 : μ3 25 11 = b := (r1 25 11 (by unfold Stn Sdl Sd; omega)).trans ((q1 25 11 (by unfold Sbp; omega)).trans h25)
        have hlay := pX1_layPage n μ3 m P fr x a b _ _ _ hl3 (hB.tr hBE3) (hC.k hO3 (fun a j z => z)) hb3 hP0 (by omega) k4 r2 (by rw [hBE3.1 7 (by decide) (by decide)]; exact r3) rfl rfl r5 ⟨ea3, by omega⟩ ⟨eb3, by omega⟩ (by rw [FDl_be hBE23]; exact r7) (by rw [md_ei_tr hBE23]; exact r6) hR g1 hx46.symm ha.symm hb'.symm
        have hcar3 := pX5_carries n μ3 hl3
        rw [ea3, eb3] at hcar3
        have hl := hl3
        -- laid
        have T : AW none 8 106 [(2, 4), (0, fr), (0, P), (0, x)] [] n μ3 PP := by
          refine aw_aload_n (q := 107) mX1_refresh dX1_refresh_106 rfl rfl ?_
          refine aw_iload_n (q := 108) mX1_refresh dX1_refresh_107 rfl rfl ?_
          refine aw_iload_n (q := 109) mX1_refresh dX1_refresh_108 rfl rfl ?_
          refine aw_iload_n (q := 110) mX1_refresh dX1_refresh_109 rfl rfl ?_
          refine aw_v3 (ci := 1) (q := 113) mX1_refresh dX1_refresh_110 rfl l1_92 k8_11 rfl kd_4 rfl rfl rfl (hlay) (kvoid (fun μ4 h4 => ?_))
          obtain ⟨s1, s2, s3, s4, s5, s6, s7⟩ := h4
          obtain ⟨H, hH⟩ : ∃ H, H = md_hr m fr (x - fr).toNat := ⟨_, rfl⟩
          rw [← hH] at s1 s4 r5
          have hvH : ∀ k ∈ H, 0 ≤ k := fun k hk => by rw [hH] at hk; exact (md_hr_mem hk).1
          have hO4 : Of Sk μ μ4 := hO3.tr (s1.mono (Slp_Sk hvH))
          have hfs : frP m (P + 1) = x := by rw [frP_succ hP0, g1]; omega
          have keep : ∀ a j, a < 17 → a ≠ 4 → ¬ (((a = 7 ∨ (8 ≤ a ∧ a ≤ 11) ∨ a = 13 ∨ a = 14) ∧ j = P) ∨ ((a = 5 ∨ a = 6) ∧ fr ≤ j ∧ j < x)) → μ4 a j = μ1 a j := fun a j h1 h2 h3 => by
            rw [s1 a j (fun z => by have := Slp_lo hvH (by omega) z; omega), r1 a j (by unfold Stn Sdl Sd; omega), q1 a j (by unfold Sbp; omega)]
          have h4 : ∀ j, j ≠ 3 → μ4 4 j = μ1 4 j := fun j hj => by
            rw [s1 4 j (fun z => by have := Slp_lo hvH (by omega) z; omega), r1 4 j (by unfold Stn Sdl Sd; omega), q1 4 j (by unfold Sbp; omega)]
          have happ : md_hr m 0 x.toNat = md_hr m 0 fr.toNat ++ H := by
            have := md_hr_app (μ := m) (fr := 0) (m := fr.toNat) (x - fr).toNat
            rw [show (0 : Int) + ((fr.toNat : Nat) : Int) = fr by omega, ← hH] at this
            rw [← this]
            congr 1
            omega
          have h9 := ih (P + 1) μ4 (0, x) (by omega) (by omega) hO4 (by rw [h4 5 (by decide)]; exact h45) (by rw [h4 4 (by decide)]; exact h44) s5 (fun p p0 p1 => by
            by_cases hpe : p = P
            · rw [hpe]; exact s2
            · have := hq p p0 (by omega)
              unfold Cq at this ⊢
              rw [keep 8 p (by decide) (by decide) (by omega), keep 9 p (by decide) (by decide) (by omega), keep 7 p (by decide) (by decide) (by omega), keep 13 p (by decide) (by decide) (by omega), keep 14 p (by decide) (by decide) (by omega), keep 10 p (by decide) (by decide) (by omega), keep 11 p (by decide) (by decide) (by omega)]
              exact this) (fun l l0 l1 => by
            rw [hfs] at l1
            by_cases hlf : fr ≤ l
            · exact s3 l hlf l1
            · rw [keep 6 l (by decide) (by decide) (by omega), keep 5 l (by decide) (by decide) (by omega)]
              exact hcl l l0 (by omega)) (fun k hk => by
            rw [hfs, happ] at hk
            rcases List.mem_append.mp hk with hk | hk
            · have hkm := md_hr_mem hk
              have keepN : ∀ j, j ≤ 14 → μ4 (nf k) j = μ1 (nf k) j := fun j hj => by
                have hn : ∀ k' ∈ H, nf k ≠ nf k' := fun k' hk' z => by
                  rw [nf_inj z] at hkm
                  rw [hH] at hk'
                  have := md_hr_mem hk'
                  omega
                rw [s1 (nf k) j (fun z => by
                  rcases z with z | z | z | z | ⟨-, k', z2, z3⟩
                  · unfold nf at z; omega
                  · unfold nf at z; omega
                  · rcases z with z | z | z | ⟨-, -, k', z2, z3⟩
                    · have := Sbl_b z; unfold nf at this; omega
                    · unfold nf at z; omega
                    · unfold nf at z; omega
                    · exact hn k' z2 z3
                  · unfold nf at z; omega
                  · exact hn k' z2 z3), r1 (nf k) j (by unfold Stn Sdl Sd nf; omega), q1 (nf k) j (by unfold Sbp nf; omega)]
              rw [keepN 11 (by decide), keepN 12 (by decide), keepN 13 (by decide), keepN 14 (by decide)]
              exact hcn k hk
            · exact s4 k hk) (hA16.to (fun j => keep 16 j (by decide) (by decide) (by omega))) (by rw [keep 15 1 (by decide) (by decide) (by omega)]; exact h15) (by rw [show 2 * (P + 1) = 2 * P + 2 by omega]; exact s6) (by rw [show 2 * (P + 1) + 1 = 2 * P + 3 by omega]; exact s7) (by
            rw [hfs, happ, s1 17 3 (fun z => by have := Slp_lo hvH (by omega) z; omega)]
            exact r5.2.2.2.2.2.1)
          rw [hfs] at h9
          refine aw_iload_n (q := 114) mX1_refresh dX1_refresh_113 rfl rfl ?_
          refine aw_istore_n (q := 115) mX1_refresh dX1_refresh_114 rfl (by decide) rfl ?_
          refine aw_iinc (q := 118) mX1_refresh dX1_refresh_115 rfl rfl (by decide) (by omega) (by omega) rfl ?_
          refine aw_goto (q := 45) mX1_refresh dX1_refresh_118 (by decide) ?_
          exact h9
        refine aw_istore_n (q := 85) mX1_refresh dX1_refresh_84 rfl (by decide) rfl ?_
        refine aw_iload_n (q := 86) mX1_refresh dX1_refresh_85 rfl rfl ?_
        refine aw_iload_n (q := 87) mX1_refresh dX1_refresh_86 rfl rfl ?_
        refine aw_icmp_ne (tgt := 106) (q := 90) mX1_refresh dX1_refresh_87 rfl (by decide) (fun c_87 => ?_) (fun c_87 => ?_)
        · exact T
        · refine aw_aload_n (q := 91) mX1_refresh dX1_refresh_90 rfl rfl ?_
          refine aw_get (t := 2) (ji := 13) (q := 94) mX1_refresh dX1_refresh_91 rfl f1_61 rfl kd_4 rfl (ly_4_13 hl) ?_
          refine aw_v0 (ci := 5) (q := 97) mX1_refresh dX1_refresh_94 rfl l1_81 k8_43 rfl kd_17 rfl rfl rfl (hcar3) (kint (fun y μ5 hy => ?_))
          obtain ⟨hm3, hy⟩ := hy
          subst hm3
          refine aw_if_ne (tgt := 106) (q := 100) mX1_refresh dX1_refresh_97 rfl (by decide) (fun c_97 => ?_) (fun c_97 => ?_)
          · exact T
          · exfalso
            have hxf : x = fr := Decidable.not_not.mp c_87
            rcases hy with ⟨y1, -⟩ | ⟨-, y2⟩
            · exact c_97 (by omega)
            · omega
      refine aw_iload_n (q := 46) mX1_refresh dX1_refresh_45 rfl rfl ?_
      refine aw_bipush (q := 48) mX1_refresh dX1_refresh_46 rfl rfl ?_
      refine aw_icmp_ge (tgt := 121) (q := 51) mX1_refresh dX1_refresh_48 rfl (by decide) (fun c_48 => ?_) (fun c_48 => ?_)
      · exact absurd c_48 (by omega)
      · refine aw_iload_n (q := 52) mX1_refresh dX1_refresh_51 rfl rfl ?_
        refine aw_aload_n (q := 53) mX1_refresh dX1_refresh_52 rfl rfl ?_
        refine aw_get (t := 2) (ji := 11) (q := 56) mX1_refresh dX1_refresh_53 rfl f1_52 rfl kd_4 rfl (ly_4_11 hl) ?_
        refine aw_get (t := 0) (ji := 2) (q := 59) mX1_refresh dX1_refresh_56 rfl f1_76 rfl kd_1 rfl e2 ?_
        refine aw_icmp_lt (tgt := 72) (q := 62) mX1_refresh dX1_refresh_59 rfl (by decide) (fun c_59 => ?_) (fun c_59 => ?_)
        · exact B
        · refine aw_aload_n (q := 63) mX1_refresh dX1_refresh_62 rfl rfl ?_
          refine aw_get (t := 2) (ji := 13) (q := 66) mX1_refresh dX1_refresh_63 rfl f1_61 rfl kd_4 rfl (ly_4_13 hl) ?_
          refine aw_v0 (ci := 5) (q := 69) mX1_refresh dX1_refresh_66 rfl l1_81 k8_43 rfl kd_17 rfl rfl rfl (hcar) (kint (fun y μ3 hy => ?_))
          obtain ⟨hm3, hy⟩ := hy
          subst hm3
          refine aw_if_eq (tgt := 121) (q := 72) mX1_refresh dX1_refresh_69 rfl (by decide) (fun c_69 => ?_) (fun c_69 => ?_)
          · exfalso
            rcases hy with ⟨y1, -⟩ | ⟨-, y2⟩
            · omega
            · omega
          · exact B
  have hl := hl0
  refine AC.of rfl ?_
  refine aw_aload_n (q := 1) mX1_refresh dX1_refresh_0 rfl rfl ?_
  refine aw_get (t := 0) (ji := 5) (q := 4) mX1_refresh dX1_refresh_1 rfl f1_25 rfl kd_4 rfl hst ?_
  refine aw_if_ne (tgt := 8) (q := 7) mX1_refresh dX1_refresh_4 rfl (by decide) (fun c_4 => ?_) (fun c_4 => ?_)
  · have hO1 : Of Sk μ μ := Of.rf
    refine aw_aload_n (q := 9) mX1_refresh dX1_refresh_8 rfl rfl ?_
    refine aw_iconst (q := 10) mX1_refresh dX1_refresh_9 rfl rfl ?_
    refine aw_put (t := 0) (ji := 5) (q := 13) mX1_refresh dX1_refresh_10 rfl f1_25 rfl kd_4 rfl (Or.inl rfl) (by first | exact Or.inr (Or.inl rfl) | exact Or.inr (Or.inr rfl) | exact Or.inr (by assumption) | exact Or.inr (by omega)) (fun μ_10 e_10 => ?_)
    have hl : Lay n μ_10 := by rw [e_10]; exact Lay.setF lf_4_5 hl
    refine aw_aload_n (q := 14) mX1_refresh dX1_refresh_13 rfl rfl ?_
    refine aw_iconst (q := 15) mX1_refresh dX1_refresh_14 rfl rfl ?_
    refine aw_put (t := 0) (ji := 4) (q := 18) mX1_refresh dX1_refresh_15 rfl f1_21 rfl kd_4 rfl (Or.inl rfl) (by first | exact Or.inr (Or.inl rfl) | exact Or.inr (Or.inr rfl) | exact Or.inr (by assumption) | exact Or.inr (by omega)) (fun μ_15 e_15 => ?_)
    have hl : Lay n μ_15 := by rw [e_15]; exact Lay.setF lf_4_4 hl
    refine aw_aload_n (q := 19) mX1_refresh dX1_refresh_18 rfl rfl ?_
    refine aw_iconst (q := 20) mX1_refresh dX1_refresh_19 rfl rfl ?_
    refine aw_put (t := 0) (ji := 3) (q := 23) mX1_refresh dX1_refresh_20 rfl f1_65 rfl kd_4 rfl (Or.inl rfl) (Or.inl (by decide)) (fun μ_20 e_20 => ?_)
    have hl : Lay n μ_20 := by rw [e_20]; exact Lay.setF lf_4_3 hl
    refine aw_aload_n (q := 24) mX1_refresh dX1_refresh_23 rfl rfl ?_
    refine aw_get (t := 2) (ji := 12) (q := 27) mX1_refresh dX1_refresh_24 rfl f1_48 rfl kd_4 rfl (ly_4_12 hl) ?_
    refine aw_aload_n (q := 28) mX1_refresh dX1_refresh_27 rfl rfl ?_
    refine aw_get (t := 2) (ji := 11) (q := 31) mX1_refresh dX1_refresh_28 rfl f1_52 rfl kd_4 rfl (ly_4_11 hl) ?_
    have hO2 : Of Sk μ μ_20 := by rw [e_20, e_15, e_10]; exact ((Of.rf.set (by unfold Sk; omega)).set (by unfold Sk; omega)).set (by unfold Sk; omega)
    have hBE2 := hO2.kbe (fun a j z => z)
    have hga := pX4_gather n μ_20 hl (hB.tr hBE2) (hC.k hO2 (fun a j z => z))
    have hb2 : BE μ_20 m := hBE2.symm.trans hb
    rw [← md_hr_tr hb2, ← hb2.1 7 (by decide) (by decide)] at hga
    refine aw_v1 (ci := 4) (q := 34) mX1_refresh dX1_refresh_31 rfl l1_69 k8_38 rfl kd_15 rfl rfl rfl (hga) (kvoid (fun μ2 h2 => ?_))
    obtain ⟨q1, q2, q3⟩ := h2
    have hO3 : Of Sk μ μ2 := hO2.tr (q1.mono So_Sk)
    have hl : Lay n μ2 := hl0.ofK hO3
    refine aw_aload_n (q := 35) mX1_refresh dX1_refresh_34 rfl rfl ?_
    refine aw_get (t := 2) (ji := 13) (q := 38) mX1_refresh dX1_refresh_35 rfl f1_61 rfl kd_4 rfl (ly_4_13 hl) ?_
    refine aw_v0 (ci := 5) (q := 41) mX1_refresh dX1_refresh_38 rfl l1_73 k8_41 rfl kd_17 rfl rfl rfl (pX5_beginBook n μ2 hl) (kvoid (fun μ3 h3 => ?_))
    obtain ⟨r1, r2, r3, r4⟩ := h3
    have hO4 : Of Sk μ μ3 := hO3.tr (r1.mono Sbb_Sk)
    have hl : Lay n μ3 := hl0.ofK hO4
    have k4 : ∀ j, μ3 4 j = μ_20 4 j := fun j => (r1 4 j (by unfold Sbb; omega)).trans (q1 4 j (by unfold So; omega))
    have hf0 : frP m 0 = 0 := by unfold frP; rw [if_pos rfl]
    have h9 := L (m 32 23).toNat 0 μ3 (9, 0) (by omega) (by omega) hO4 (by rw [k4, e_20, am_sn (Or.inr (by decide)), e_15, am_sn (Or.inr (by decide)), e_10, am_ss]) (by rw [k4, e_20, am_sn (Or.inr (by decide)), e_15, am_ss]) (by rw [k4, e_20, am_ss]) (fun p p0 p1 => by omega) (fun l l0 l1 => by rw [hf0] at l1; omega) (by rw [hf0]; intro k hk; simp [md_hr] at hk) (q2.to (fun j => r1 16 j (by unfold Sbb; omega))) ((r1 15 1 (by unfold Sbb; omega)).trans q3) (by rw [r2]; exact hca.symm) (by rw [r3]; exact hcb.symm) (by rw [r4, hf0]; rfl)
    rw [hf0] at h9
    refine aw_iconst (q := 42) mX1_refresh dX1_refresh_41 rfl rfl ?_
    refine aw_istore_n (q := 43) mX1_refresh dX1_refresh_42 rfl (by decide) rfl ?_
    refine aw_iconst (q := 44) mX1_refresh dX1_refresh_43 rfl rfl ?_
    refine aw_istore_n (q := 45) mX1_refresh dX1_refresh_44 rfl (by decide) rfl ?_
    exact h9
  · exact absurd c_4 (by decide)

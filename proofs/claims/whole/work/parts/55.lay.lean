/-! the class's Breaks: layPage -/
def Slp (p fr en : Int) (H : List Int) (a j : Int) : Prop := ((a = 7 ∨ (8 ≤ a ∧ a ≤ 11) ∨ a = 13 ∨ a = 14) ∧ j = p) ∨ ((a = 5 ∨ a = 6) ∧ fr ≤ j ∧ j < en) ∨ Sbt H a j ∨ (a = 4 ∧ j = 3) ∨ (j = 11 ∧ ∃ k ∈ H, a = nf k)
theorem Slp_Sk {p fr en : Int} {H : List Int} (hv : ∀ k ∈ H, 0 ≤ k) : ∀ a j, Slp p fr en H a j → Sk a j := fun a j h => by
  rcases h with h | h | h | h | ⟨h1, k, h2, h3⟩
  · unfold Sk; omega
  · unfold Sk; omega
  · exact Sbt_Sk hv a j h
  · unfold Sk; omega
  · have := hv k h2
    unfold nf at h3
    unfold Sk; omega
/-- cells below 18 that a page's laying leaves alone -/
theorem Slp_lo {p fr en : Int} {H : List Int} (hv : ∀ k ∈ H, 0 ≤ k) {a j : Int} (ha : a < 18) (h : Slp p fr en H a j) : ((a = 7 ∨ (8 ≤ a ∧ a ≤ 11) ∨ a = 13 ∨ a = 14) ∧ j = p) ∨ ((a = 5 ∨ a = 6) ∧ fr ≤ j ∧ j < en) ∨ (a = 4 ∧ j = 3) := by
  rcases h with h | h | h | h | ⟨h1, k, h2, h3⟩
  · exact Or.inl h
  · exact Or.inr (Or.inl h)
  · rcases h with h | h | h | ⟨h1, h2, k, h3, h4⟩
    · have := Sbl_b h; omega
    · omega
    · omega
    · have := hv k h3; unfold nf at h4; omega
  · exact Or.inr (Or.inr h)
  · have := hv k h2; unfold nf at h3; omega
/-- page p as the class holds it is as the reference has it -/
def Cq (μ m : am_M) (p : Int) : Prop := μ 8 p = m 45 p ∧ μ 9 p = m 45 p + m 46 p ∧ μ 7 p = m 48 p ∧ μ 13 p = m 47 (2 * p) ∧ μ 14 p = m 47 (2 * p + 1) ∧ μ 10 p = ((md_hr m 0 (m 45 p).toNat).length : Int) ∧ μ 11 p = ((md_hr m 0 (m 45 p + m 46 p).toNat).length : Int)
def Cl (μ m : am_M) (fr en : Int) : Prop := ∀ l, fr ≤ l → l < en → μ 6 l = m 49 l ∧ μ 5 l = m 50 l
def Cn (μ m : am_M) (H : List Int) : Prop := ∀ k ∈ H, μ (nf k) 11 = m 49 (m 34 k) ∧ μ (nf k) 12 = m 51 k ∧ μ (nf k) 13 = m 52 k ∧ μ (nf k) 14 = m 54 k
theorem pX1_layPage (n : Nat) (μ m : am_M) (p fr en a b : Int) (A H B : List Int) (hl0 : Lay n μ) (hB : Bk μ) (hC : Cb n μ) (hb : BE μ m) (hp0 : 0 ≤ p) (hp1 : p < 84) (hf : 0 ≤ fr) (hfe : fr ≤ en) (hel : en ≤ μ 32 7) (hA : A = md_hr m 0 fr.toNat) (hH : H = md_hr m fr (en - fr).toNat) (hP : Ph n μ A H B) (ha : μ 18 11 = a ∧ 0 ≤ a ∧ a ≤ 380) (hb' : μ 25 11 = b ∧ 0 ≤ b ∧ b ≤ 380) (hF : FDl μ a b H (μ 17 6)) (he6 : md_ei μ H ≤ 6) (hR : PgR m p) (r45 : m 45 p = fr) (r46 : m 46 p = en - fr) (r47 : m 47 (2 * p) = a) (r47' : m 47 (2 * p + 1) = b) : AC 11 [(2, 4), (0, p), (0, fr), (0, en)] n μ (PV n (fun μ' => Of (Slp p fr en H) μ μ' ∧ Cq μ' m p ∧ Cl μ' m fr en ∧ Cn μ' m H ∧ μ' 4 3 = p + 1 ∧ μ' 18 11 = m 47 (2 * p + 2) ∧ μ' 25 11 = m 47 (2 * p + 3))) := by
  obtain ⟨b1, b2, b3, b4, b5, b6, b7, b8, b9⟩ := id hB
  obtain ⟨cn, ⟨c2, c3, c4, c5, c6, c7, c8⟩, ch, ck⟩ := id hC
  obtain ⟨p1, p2, p3, p4, p5, p6, p7⟩ := id hP
  obtain ⟨h1, h2, h3, h4, h5, h6⟩ := id hR
  rw [r45, r46] at h5 h6
  rw [r45, r46, r47, r47'] at h4
  rw [r47, r47', ← hH] at h6
  have hBm : Bk m := hB.tr hb
  have hvH : ∀ k ∈ H, 0 ≤ k ∧ k < μ 32 8 := fun k hk => p4 k (by simp [hk])
  have hv0 : ∀ k ∈ H, 0 ≤ k := fun k hk => (hvH k hk).1
  have hHl : ∀ k ∈ H, fr ≤ m 34 k ∧ m 34 k < en := fun k hk => by rw [hH] at hk; have := md_hr_mem hk; omega
  have hnd : H.Nodup := by rw [hH]; exact md_hr_nodup _
  have hABl : (A ++ H ++ B).length = A.length + H.length + B.length := by simp; omega
  have hAHl : (A ++ H).length = A.length + H.length := List.length_append
  have hAH : (A ++ H).length = (md_hr m 0 (m 45 p + m 46 p).toNat).length := by
    rw [hA, hH, r45, r46]
    have := md_hr_app (μ := m) (fr := 0) (m := fr.toNat) (en - fr).toNat
    rw [show (0 : Int) + ((fr.toNat : Nat) : Int) = fr by omega] at this
    rw [← this]
    congr 2
    omega
  -- the page's height bounds the tops
  have hheld : (0 : Int) < en - fr → md_ls m fr (en - fr).toNat ≤ 400 := fun h => by
    have := (h4.1 (en - fr) h (Int.le_refl _)).1
    have := hBm.1
    omega
  have hls : ∀ i : Nat, fr + (i : Int) ≤ en → 0 ≤ md_ls m fr i ∧ md_ls m fr i ≤ 400 := fun i hi => by
    by_cases h0 : (0 : Int) < en - fr
    · have h9 := md_ls_mono hBm hf (en - fr).toNat i (by omega) (by rw [hb.1 7 (by decide) (by decide)]; omega)
      have := hheld h0
      omega
    · have : i = 0 := by omega
      rw [this]
      show (0 : Int) ≤ 0 ∧ (0 : Int) ≤ 400
      omega
  obtain ⟨PP, hPP⟩ : ∃ P : Option am_V → Nat → am_M → Prop, P = PV n (fun μ' => Of (Slp p fr en H) μ μ' ∧ Cq μ' m p ∧ Cl μ' m fr en ∧ Cn μ' m H ∧ μ' 4 3 = p + 1 ∧ μ' 18 11 = m 47 (2 * p + 2) ∧ μ' 25 11 = m 47 (2 * p + 3)) := ⟨_, rfl⟩
  rw [← hPP]
  -- what is written ahead of the setting
  obtain ⟨S0, hS0⟩ : ∃ S : Int → Int → Prop, S = (fun a j => ((8 ≤ a ∧ a ≤ 11 ∨ a = 13 ∨ a = 14) ∧ j = p) ∨ ((a = 5 ∨ a = 6) ∧ fr ≤ j ∧ j < en) ∨ (j = 11 ∧ ∃ k ∈ H, a = nf k)) := ⟨_, rfl⟩
  have S0k : ∀ a j, S0 a j → Sk a j := fun a j z => by
    rw [hS0] at z
    rcases z with z | z | ⟨z1, k, z2, z3⟩
    · unfold Sk; omega
    · unfold Sk; omega
    · have := hv0 k z2; unfold nf at z3; unfold Sk; omega
  have S0lo : ∀ a j, a < 66 → S0 a j → ((8 ≤ a ∧ a ≤ 11 ∨ a = 13 ∨ a = 14) ∧ j = p) ∨ ((a = 5 ∨ a = 6) ∧ fr ≤ j ∧ j < en) := fun a j ha z => by
    rw [hS0] at z
    rcases z with z | z | ⟨z1, k, z2, z3⟩
    · exact Or.inl z
    · exact Or.inr z
    · have := hv0 k z2; unfold nf at z3; omega
  have S0s : ∀ a j, S0 a j → Slp p fr en H a j := fun a j z => by
    rw [hS0] at z
    rcases z with z | z | z
    · exact Or.inl ⟨by omega, z.2⟩
    · exact Or.inr (Or.inl z)
    · exact Or.inr (Or.inr (Or.inr (Or.inr z)))
  have S0p : ∀ x j, (8 ≤ x ∧ x ≤ 11 ∨ x = 13 ∨ x = 14) → j = p → S0 x j := fun x j z z2 => by rw [hS0]; exact Or.inl ⟨z, z2⟩
  have S0l : ∀ x j, (x = 5 ∨ x = 6) → fr ≤ j → j < en → S0 x j := fun x j z z2 z3 => by rw [hS0]; exact Or.inr (Or.inl ⟨z, z2, z3⟩)
  have S0n : ∀ k, k ∈ H → S0 (nf k) 11 := fun k z => by rw [hS0]; exact Or.inr (Or.inr ⟨rfl, k, z, rfl⟩)
  -- the arrays of pages
  obtain ⟨R0, hR0⟩ : ∃ R : am_M → Prop, R = (fun μ1 => μ1 8 p = fr ∧ μ1 9 p = en ∧ μ1 10 p = (A.length : Int) ∧ μ1 11 p = ((A ++ H).length : Int) ∧ μ1 13 p = a ∧ μ1 14 p = b) := ⟨_, rfl⟩
  -- the setting
  have Z : ∀ (μ1 : am_M) (x4 x5 : Int) (v6 : am_V), Of S0 μ μ1 → R0 μ1 → Cl μ1 m fr en → (∀ k ∈ H, μ1 (nf k) 11 = m 49 (m 34 k)) → AW none 11 178 [(2, 4), (0, p), (0, fr), (0, en), (0, x4), (0, x5), v6] [] n μ1 PP := by
    intro μ1 x4 x5 v6 hO hr hcl hn
    rw [hR0] at hr
    obtain ⟨q1, q2, q3, q4, q5, q6⟩ := hr
    have hl : Lay n μ1 := hl0.ofS hO S0k
    have hBE := hO.kbe S0k
    have hb1 : BE μ1 m := hBE.symm.trans hb
    have hP1 : Ph n μ1 A H B := hP.tr hBE (fun j => hO 16 j (fun z => by have := S0lo _ _ (by decide) z; omega)) (hO 15 1 (fun z => by have := S0lo _ _ (by decide) z; omega)) (hO 17 2 (fun z => by have := S0lo _ _ (by decide) z; omega)) (hO 17 3 (fun z => by have := S0lo _ _ (by decide) z; omega)) (hO 17 5 (fun z => by have := S0lo _ _ (by decide) z; omega))
    have ea : μ1 18 11 = a := (hO 18 11 (fun z => by have := S0lo _ _ (by decide) z; omega)).trans ha.1
    have eb : μ1 25 11 = b := (hO 25 11 (fun z => by have := S0lo _ _ (by decide) z; omega)).trans hb'.1
    have e6 : μ1 17 6 = μ 17 6 := hO 17 6 (fun z => by have := S0lo _ _ (by decide) z; omega)
    have hset := pX5_setBest n μ1 m a b (μ1 17 6) p A H B hl (hB.tr hBE) (hC.k hO S0k) hb1 hP1 ⟨ea, ha.2⟩ ⟨eb, hb'.2⟩ rfl (by rw [FDl_be hBE, e6]; exact hF) (by rw [md_ei_tr hBE]; exact he6) hnd hn (fun k hk => by
      have hk2 := hHl k hk
      rw [(h5 (m 34 k) hk2.1 (by omega)).1]
      exact hls _ (by omega))
    refine aw_aload_n (q := 179) mX1_layPage dX1_layPage_178 rfl rfl ?_
    refine aw_get (t := 2) (ji := 2) (q := 182) mX1_layPage dX1_layPage_179 rfl f1_18 rfl kd_4 rfl (ly_4_2 hl) ?_
    refine aw_iload_n (q := 183) mX1_layPage dX1_layPage_182 rfl rfl ?_
    refine aw_aload_n (q := 184) mX1_layPage dX1_layPage_183 rfl rfl ?_
    refine aw_get (t := 2) (ji := 13) (q := 187) mX1_layPage dX1_layPage_184 rfl f1_61 rfl kd_4 rfl (ly_4_13 hl) ?_
    refine aw_v0 (ci := 5) (q := 190) mX1_layPage dX1_layPage_187 rfl l1_134 k11_48 rfl kd_17 rfl rfl rfl (hset) (kint (fun x μ2 hx => ?_))
    obtain ⟨hO2, hPg⟩ := hx
    have hSk2 : ∀ a j, Sbt H a j → Sk a j := Sbt_Sk hv0
    have hl : Lay n μ2 := hl.ofS hO2 hSk2
    obtain ⟨u1, u2, u3, u4⟩ := PgB_uniq (μ := m) (fun k hk => by
      have := hvH k hk
      exact (hBm.2.2.2.2.2.2.2.2 k this.1 (by rw [hb.1 8 (by decide) (by decide)]; exact this.2)).2.2.2.1.1) hPg h6
    have u1 : x = m 48 p := u1
    have u2 : (if 2 * p + 2 = 2 * p + 2 then μ2 18 11 else μ2 25 11) = m 47 (2 * p + 2) := u2
    have u3 : (if 2 * p + 3 = 2 * p + 2 then μ2 18 11 else μ2 25 11) = m 47 (2 * p + 3) := u3
    rw [if_pos rfl] at u2
    rw [if_neg (by omega)] at u3
    have Slo : ∀ a j, a < 18 → ¬ Sbt H a j := fun a j ha' z => by
      have := Slp_lo (p := p) (fr := 0) (en := 0) hv0 (by omega) (Or.inr (Or.inr (Or.inl z)))
      rcases z with z | z | z | ⟨z1, z2, k, z3, z4⟩
      · have := Sbl_b z; omega
      · omega
      · omega
      · have := hv0 k z3; unfold nf at z4; omega
    refine aw_iast (q := 191) mX1_layPage dX1_layPage_190 rfl kd_7 (by omega) (by omega) (fun μ_190 e_190 => ?_)
    have hl : Lay n μ_190 := by rw [e_190]; exact Lay.setA la_7 hl
    refine aw_aload_n (q := 192) mX1_layPage dX1_layPage_191 rfl rfl ?_
    refine aw_iload_n (q := 193) mX1_layPage dX1_layPage_192 rfl rfl ?_
    refine aw_iconst (q := 194) mX1_layPage dX1_layPage_193 rfl rfl ?_
    refine aw_iadd (q := 195) mX1_layPage dX1_layPage_194 rfl (by omega) (by omega) ?_
    refine aw_put (t := 0) (ji := 3) (q := 198) mX1_layPage dX1_layPage_195 rfl f1_65 rfl kd_4 rfl (Or.inl rfl) (Or.inl (by decide)) (fun μ_195 e_195 => ?_)
    have hl : Lay n μ_195 := by rw [e_195]; exact Lay.setF lf_4_3 hl
    refine aw_vret mX1_layPage dX1_layPage_198 ?_
    rw [hPP]
    have hO3 : Of (Slp p fr en H) μ μ_195 := by
      rw [e_195, e_190]
      exact (((hO.mono S0s).tr (hO2.mono (fun a j z => Or.inr (Or.inr (Or.inl z))))).set (Or.inl ⟨Or.inl rfl, rfl⟩)).set (Or.inr (Or.inr (Or.inr (Or.inl ⟨rfl, rfl⟩))))
    have keep : ∀ a j, a < 18 → a ≠ 7 → a ≠ 4 → μ_195 a j = μ1 a j := fun a j h1 h2 h3 => by
      rw [e_195, am_sn (Or.inl h3), e_190, am_sn (Or.inl h2)]
      exact hO2 a j (Slo a j h1)
    have keepN : ∀ k j, k ∈ H → μ_195 (nf k) j = μ2 (nf k) j := fun k j hk => by
      have := hv0 k hk
      rw [e_195, am_sn (Or.inl (by unfold nf; omega)), e_190, am_sn (Or.inl (by unfold nf; omega))]
    refine ⟨rfl, rfl, hO3, ⟨?_, ?_, ?_, ?_, ?_, ?_, ?_⟩, fun l l0 l1 => ?_, fun k hk => ?_, ?_, ?_, ?_⟩
    · rw [keep 8 p (by decide) (by decide) (by decide), q1, r45]
    · rw [keep 9 p (by decide) (by decide) (by decide), q2, r45, r46]; omega
    · rw [e_195, am_sn (Or.inl (by decide)), e_190, am_ss]; exact u1
    · rw [keep 13 p (by decide) (by decide) (by decide), q5, r47]
    · rw [keep 14 p (by decide) (by decide) (by decide), q6, r47']
    · rw [keep 10 p (by decide) (by decide) (by decide), q3, r45, hA]
    · rw [keep 11 p (by decide) (by decide) (by decide), q4, hAH]
    · rw [keep 6 l (by decide) (by decide) (by decide), keep 5 l (by decide) (by decide) (by decide)]
      exact hcl l l0 l1
    · rw [keepN k 11 hk, keepN k 12 hk, keepN k 13 hk, keepN k 14 hk]
      refine ⟨?_, u4 51 k (by decide) (by decide) hk, u4 52 k (by decide) (by decide) hk, u4 54 k (by decide) (by decide) hk⟩
      have h11 : μ2 (nf k) 11 = μ1 (nf k) 11 := hO2 (nf k) 11 (fun z => by
        have := hv0 k hk
        rcases z with z | z | z | ⟨z1, z2, -⟩
        · have := Sbl_b z; unfold nf at this; omega
        · unfold nf at z; omega
        · unfold nf at z; omega
        · omega)
      rw [h11]
      exact hn k hk
    · rw [e_195, am_ss]
    · rw [e_195, am_sn (Or.inl (by decide)), e_190, am_sn (Or.inl (by decide))]; exact u2
    · rw [e_195, am_sn (Or.inl (by decide)), e_190, am_sn (Or.inl (by decide))]; exact u3
  -- the notes get their tops
  have Y : ∀ (suf pre : List Int) (μ1 : am_M) (x4 : Int) (v6 : am_V), H = pre ++ suf → Of S0 μ μ1 → R0 μ1 → Cl μ1 m fr en → (∀ k ∈ pre, μ1 (nf k) 11 = m 49 (m 34 k)) → AW none 11 134 [(2, 4), (0, p), (0, fr), (0, en), (0, x4), (0, (A.length : Int) + (pre.length : Int)), v6] [] n μ1 PP := by
    intro suf
    induction suf with
    | nil =>
      intro pre μ1 x4 v6 hps hO hr hcl hn
      have hl : Lay n μ1 := hl0.ofS hO S0k
      have hr' := hr
      rw [hR0] at hr'
      have hpe : pre = H := by rw [hps]; simp
      rw [hpe] at hn
      refine aw_iload (q := 136) mX1_layPage dX1_layPage_134 rfl rfl ?_
      refine aw_aload_n (q := 137) mX1_layPage dX1_layPage_136 rfl rfl ?_
      refine aw_get (t := 2) (ji := 9) (q := 140) mX1_layPage dX1_layPage_137 rfl f1_37 rfl kd_4 rfl (ly_4_9 hl) ?_
      refine aw_iload_n (q := 141) mX1_layPage dX1_layPage_140 rfl rfl ?_
      refine aw_iald (q := 142) mX1_layPage dX1_layPage_141 rfl kd_11 (by omega) (by omega) hr'.2.2.2.1 ?_
      refine aw_icmp_ge (tgt := 178) (q := 145) mX1_layPage dX1_layPage_142 rfl (by decide) (fun c_142 => ?_) (fun c_142 => ?_)
      · exact Z μ1 x4 _ _ hO hr hcl hn
      · exact absurd c_142 (by rw [hpe]; omega)
    | cons k suf ih =>
      intro pre μ1 x4 v6 hps hO hr hcl hn
      have hl : Lay n μ1 := hl0.ofS hO S0k
      have hr' := hr
      rw [hR0] at hr'
      have hpl : H.length = pre.length + suf.length + 1 := by rw [hps]; simp; omega
      have hkH : k ∈ H := by rw [hps]; simp
      obtain ⟨k0, k1⟩ := hvH k hkH
      have hkr : Nr n (nf k) := nf_r hC k0 k1
      obtain ⟨-, mm⟩ := ck k k0 k1
      obtain ⟨r, hr3⟩ : ∃ r, r = nf k := ⟨_, rfl⟩
      rw [← hr3] at hkr
      have hk_r := hkr.k
      have hg_r := hkr.1
      have hkl := hHl k hkH
      have em : m 34 k = μ 34 k := hb.2 34 k (by decide) (by decide)
      have er : μ1 16 ((A.length : Int) + (pre.length : Int)) = r := (hO 16 _ (fun z => by have := S0lo _ _ (by decide) z; omega)).trans (by
        have h9 := p1
        rw [hps, show A ++ (pre ++ k :: suf) ++ B = (A ++ pre) ++ k :: (suf ++ B) by simp, List.map_append, List.map_cons] at h9
        have := Ar.mid h9
        rw [List.length_map, List.length_append] at this
        rw [hr3, ← this]
        congr 1)
      have e6 : μ1 r 6 = m 34 k := (hO r 6 (fun z => by
        rw [hS0] at z
        rcases z with z | z | ⟨z1, -⟩ <;> omega)).trans (by rw [hr3, em]; exact mm.2.2.2.2.2.1)
      have etop : μ1 6 (m 34 k) = m 49 (m 34 k) := (hcl _ hkl.1 hkl.2).1
      refine aw_iload (q := 136) mX1_layPage dX1_layPage_134 rfl rfl ?_
      refine aw_aload_n (q := 137) mX1_layPage dX1_layPage_136 rfl rfl ?_
      refine aw_get (t := 2) (ji := 9) (q := 140) mX1_layPage dX1_layPage_137 rfl f1_37 rfl kd_4 rfl (ly_4_9 hl) ?_
      refine aw_iload_n (q := 141) mX1_layPage dX1_layPage_140 rfl rfl ?_
      refine aw_iald (q := 142) mX1_layPage dX1_layPage_141 rfl kd_11 (by omega) (by omega) hr'.2.2.2.1 ?_
      refine aw_icmp_ge (tgt := 178) (q := 145) mX1_layPage dX1_layPage_142 rfl (by decide) (fun c_142 => ?_) (fun c_142 => ?_)
      · exact absurd c_142 (by omega)
      · refine aw_aload_n (q := 146) mX1_layPage dX1_layPage_145 rfl rfl ?_
        refine aw_get (t := 2) (ji := 12) (q := 149) mX1_layPage dX1_layPage_146 rfl f1_48 rfl kd_4 rfl (ly_4_12 hl) ?_
        refine aw_get (t := 2) (ji := 0) (q := 152) mX1_layPage dX1_layPage_149 rfl f1_123 rfl kd_15 rfl (ly_15_0 hl) ?_
        refine aw_iload (q := 154) mX1_layPage dX1_layPage_152 rfl rfl ?_
        refine aw_aald (q := 155) mX1_layPage dX1_layPage_154 rfl kd_16 (by omega) (by omega) er ?_
        refine aw_astore (q := 157) mX1_layPage dX1_layPage_155 rfl (by decide) rfl ?_
        refine aw_aload (q := 159) mX1_layPage dX1_layPage_157 rfl rfl ?_
        refine aw_aload_n (q := 160) mX1_layPage dX1_layPage_159 rfl rfl ?_
        refine aw_get (t := 2) (ji := 1) (q := 163) mX1_layPage dX1_layPage_160 rfl f1_15 rfl kd_4 rfl (ly_4_1 hl) ?_
        refine aw_aload (q := 165) mX1_layPage dX1_layPage_163 rfl rfl ?_
        refine aw_get (t := 0) (ji := 6) (q := 168) mX1_layPage dX1_layPage_165 rfl f1_127 rfl hk_r rfl e6 ?_
        refine aw_iald (q := 169) mX1_layPage dX1_layPage_168 rfl kd_6 (by omega) (by omega) etop ?_
        refine aw_put (t := 0) (ji := 11) (q := 172) mX1_layPage dX1_layPage_169 rfl f1_132 rfl hk_r rfl (Or.inl rfl) (Or.inl (by decide)) (fun μ_169 e_169 => ?_)
        have hl : Lay n μ_169 := by rw [e_169]; exact Lay.setN hg_r (fun _ => by decide) hl
        refine aw_iinc (q := 175) mX1_layPage dX1_layPage_172 rfl rfl (by decide) (by omega) (by omega) rfl ?_
        refine aw_goto (q := 134) mX1_layPage dX1_layPage_175 (by decide) ?_
        have h9 := ih (pre ++ [k]) μ_169 x4 (2, r) (by rw [hps]; simp) (by rw [e_169, hr3]; exact hO.set (S0n k hkH)) (by
          rw [hR0]
          dsimp only
          rw [e_169, am_sn (Or.inl (by omega)), am_sn (Or.inl (by omega)), am_sn (Or.inl (by omega)), am_sn (Or.inl (by omega)), am_sn (Or.inl (by omega)), am_sn (Or.inl (by omega))]
          exact hr') (fun l l0 l1 => by
          rw [e_169, am_sn (Or.inl (by omega)), am_sn (Or.inl (by omega))]
          exact hcl l l0 l1) (fun k' hk' => by
          by_cases hkk : k' = k
          · rw [hkk, ← hr3, e_169, am_ss]
          · rcases List.mem_append.mp hk' with hk' | hk'
            · rw [e_169, am_sn (Or.inl (fun z => hkk (nf_inj (z.trans hr3))))]
              exact hn k' hk'
            · exact absurd (by simpa using hk') hkk)
        rw [List.length_append] at h9
        rw [show (A.length : Int) + (pre.length : Int) + 1 = (A.length : Int) + ((pre.length + [k].length : Nat) : Int) by simp; omega]
        exact h9
  -- the lines get their tops
  have X : ∀ (d i : Nat) (μ1 : am_M) (v6 : am_V), fr + (i : Int) + d = en → Of S0 μ μ1 → R0 μ1 → Cl μ1 m fr (fr + (i : Int)) → AW none 11 82 [(2, 4), (0, p), (0, fr), (0, en), (0, md_ls m fr i), (0, fr + (i : Int)), v6] [] n μ1 PP := by
    intro d
    induction d with
    | zero =>
      intro i μ1 v6 hi hO hr hcl
      have hl : Lay n μ1 := hl0.ofS hO S0k
      have hr' := hr
      rw [hR0] at hr'
      refine aw_iload (q := 84) mX1_layPage dX1_layPage_82 rfl rfl ?_
      refine aw_iload_n (q := 85) mX1_layPage dX1_layPage_84 rfl rfl ?_
      refine aw_icmp_ge (tgt := 126) (q := 88) mX1_layPage dX1_layPage_85 rfl (by decide) (fun c_85 => ?_) (fun c_85 => ?_)
      · refine aw_aload_n (q := 127) mX1_layPage dX1_layPage_126 rfl rfl ?_
        refine aw_get (t := 2) (ji := 8) (q := 130) mX1_layPage dX1_layPage_127 rfl f1_34 rfl kd_4 rfl (ly_4_8 hl) ?_
        refine aw_iload_n (q := 131) mX1_layPage dX1_layPage_130 rfl rfl ?_
        refine aw_iald (q := 132) mX1_layPage dX1_layPage_131 rfl kd_10 (by omega) (by omega) hr'.2.2.1 ?_
        refine aw_istore (q := 134) mX1_layPage dX1_layPage_132 rfl (by decide) rfl ?_
        have h9 := Y H [] μ1 (md_ls m fr i) v6 rfl hO hr (by rw [show en = fr + (i : Int) by omega]; exact hcl) (fun k hk => by simp at hk)
        rw [show (A.length : Int) + (([] : List Int).length : Int) = (A.length : Int) by simp] at h9
        exact h9
      · exact absurd c_85 (by omega)
    | succ d ih =>
      intro i μ1 v6 hi hO hr hcl
      have hl : Lay n μ1 := hl0.ofS hO S0k
      have hr' := hr
      rw [hR0] at hr'
      have hls1 := hls i (by omega)
      have hls2 := hls (i + 1) (by omega)
      have hlsE : md_ls m fr (i + 1) = md_ls m fr i + m 33 (fr + (i : Int)) := rfl
      have eh : μ1 2 (fr + (i : Int)) = m 33 (fr + (i : Int)) := (hO 2 _ (fun z => by have := S0lo _ _ (by decide) z; omega)).trans (by rw [ch _ (by omega) (by omega), hb.2 33 _ (by decide) (by decide)])
      have h5i := h5 (fr + (i : Int)) (by omega) (by omega)
      rw [show (fr + (i : Int) - fr).toNat = i by omega] at h5i
      refine aw_iload (q := 84) mX1_layPage dX1_layPage_82 rfl rfl ?_
      refine aw_iload_n (q := 85) mX1_layPage dX1_layPage_84 rfl rfl ?_
      refine aw_icmp_ge (tgt := 126) (q := 88) mX1_layPage dX1_layPage_85 rfl (by decide) (fun c_85 => ?_) (fun c_85 => ?_)
      · exact absurd c_85 (by omega)
      · refine aw_aload_n (q := 89) mX1_layPage dX1_layPage_88 rfl rfl ?_
        refine aw_get (t := 2) (ji := 0) (q := 92) mX1_layPage dX1_layPage_89 rfl f1_9 rfl kd_4 rfl (ly_4_0 hl) ?_
        refine aw_iload (q := 94) mX1_layPage dX1_layPage_92 rfl rfl ?_
        refine aw_iload_n (q := 95) mX1_layPage dX1_layPage_94 rfl rfl ?_
        refine aw_iast (q := 96) mX1_layPage dX1_layPage_95 rfl kd_5 (by omega) (by omega) (fun μ_95 e_95 => ?_)
        have hl : Lay n μ_95 := by rw [e_95]; exact Lay.setA la_5 hl
        refine aw_aload_n (q := 97) mX1_layPage dX1_layPage_96 rfl rfl ?_
        refine aw_get (t := 2) (ji := 1) (q := 100) mX1_layPage dX1_layPage_97 rfl f1_15 rfl kd_4 rfl (ly_4_1 hl) ?_
        refine aw_iload (q := 102) mX1_layPage dX1_layPage_100 rfl rfl ?_
        refine aw_iload (q := 104) mX1_layPage dX1_layPage_102 rfl rfl ?_
        refine aw_iast (q := 105) mX1_layPage dX1_layPage_104 rfl kd_6 (by omega) (by omega) (fun μ_104 e_104 => ?_)
        have hl : Lay n μ_104 := by rw [e_104]; exact Lay.setA la_6 hl
        refine aw_iload (q := 107) mX1_layPage dX1_layPage_105 rfl rfl ?_
        refine aw_aload_n (q := 108) mX1_layPage dX1_layPage_107 rfl rfl ?_
        refine aw_get (t := 2) (ji := 11) (q := 111) mX1_layPage dX1_layPage_108 rfl f1_52 rfl kd_4 rfl (ly_4_11 hl) ?_
        refine aw_get (t := 2) (ji := 0) (q := 114) mX1_layPage dX1_layPage_111 rfl f1_96 rfl kd_1 rfl (ly_1_0 hl) ?_
        refine aw_iload (q := 116) mX1_layPage dX1_layPage_114 rfl rfl ?_
        refine aw_iald (q := 117) mX1_layPage dX1_layPage_116 rfl kd_2 (by omega) (by omega) (rd_sn e_104 (Or.inl (by decide)) (rd_sn e_95 (Or.inl (by decide)) eh)) ?_
        refine aw_iadd (q := 118) mX1_layPage dX1_layPage_117 rfl (by omega) (by omega) ?_
        refine aw_istore (q := 120) mX1_layPage dX1_layPage_118 rfl (by decide) rfl ?_
        refine aw_iinc (q := 123) mX1_layPage dX1_layPage_120 rfl rfl (by decide) (by omega) (by omega) rfl ?_
        refine aw_goto (q := 82) mX1_layPage dX1_layPage_123 (by decide) ?_
        have h9 := ih (i + 1) μ_104 v6 (by omega) (by rw [e_104, e_95]; exact (hO.set (S0l 5 _ (Or.inl rfl) (by omega) (by omega))).set (S0l 6 _ (Or.inr rfl) (by omega) (by omega))) (by
          rw [hR0]
          dsimp only
          rw [e_104, am_sn (Or.inl (by decide)), am_sn (Or.inl (by decide)), am_sn (Or.inl (by decide)), am_sn (Or.inl (by decide)), am_sn (Or.inl (by decide)), am_sn (Or.inl (by decide)), e_95, am_sn (Or.inl (by decide)), am_sn (Or.inl (by decide)), am_sn (Or.inl (by decide)), am_sn (Or.inl (by decide)), am_sn (Or.inl (by decide)), am_sn (Or.inl (by decide))]
          exact hr') (fun l l0 l1 => by
          by_cases hle : l = fr + (i : Int)
          · rw [hle, e_104, am_ss, am_sn (Or.inl (by decide)), e_95, am_ss, h5i.1, h5i.2]
            exact ⟨rfl, rfl⟩
          · rw [e_104, am_sn (Or.inr hle), am_sn (Or.inl (by decide)), e_95, am_sn (Or.inl (by decide)), am_sn (Or.inr hle)]
            exact hcl l l0 (by omega))
        rw [hlsE, show fr + ((i + 1 : Nat) : Int) = fr + (i : Int) + 1 by omega] at h9
        exact h9
  have hl := hl0
  refine AC.of rfl ?_
  refine aw_aload_n (q := 1) mX1_layPage dX1_layPage_0 rfl rfl ?_
  refine aw_get (t := 2) (ji := 6) (q := 4) mX1_layPage dX1_layPage_1 rfl f1_28 rfl kd_4 rfl (ly_4_6 hl) ?_
  refine aw_iload_n (q := 5) mX1_layPage dX1_layPage_4 rfl rfl ?_
  refine aw_iload_n (q := 6) mX1_layPage dX1_layPage_5 rfl rfl ?_
  refine aw_iast (q := 7) mX1_layPage dX1_layPage_6 rfl kd_8 (by omega) (by omega) (fun μ_6 e_6 => ?_)
  have hl : Lay n μ_6 := by rw [e_6]; exact Lay.setA la_8 hl
  refine aw_aload_n (q := 8) mX1_layPage dX1_layPage_7 rfl rfl ?_
  refine aw_get (t := 2) (ji := 7) (q := 11) mX1_layPage dX1_layPage_8 rfl f1_31 rfl kd_4 rfl (ly_4_7 hl) ?_
  refine aw_iload_n (q := 12) mX1_layPage dX1_layPage_11 rfl rfl ?_
  refine aw_iload_n (q := 13) mX1_layPage dX1_layPage_12 rfl rfl ?_
  refine aw_iast (q := 14) mX1_layPage dX1_layPage_13 rfl kd_9 (by omega) (by omega) (fun μ_13 e_13 => ?_)
  have hl : Lay n μ_13 := by rw [e_13]; exact Lay.setA la_9 hl
  refine aw_aload_n (q := 15) mX1_layPage dX1_layPage_14 rfl rfl ?_
  refine aw_get (t := 2) (ji := 8) (q := 18) mX1_layPage dX1_layPage_15 rfl f1_34 rfl kd_4 rfl (ly_4_8 hl) ?_
  refine aw_iload_n (q := 19) mX1_layPage dX1_layPage_18 rfl rfl ?_
  refine aw_aload_n (q := 20) mX1_layPage dX1_layPage_19 rfl rfl ?_
  refine aw_get (t := 2) (ji := 13) (q := 23) mX1_layPage dX1_layPage_20 rfl f1_61 rfl kd_4 rfl (ly_4_13 hl) ?_
  refine aw_get (t := 0) (ji := 2) (q := 26) mX1_layPage dX1_layPage_23 rfl f1_106 rfl kd_17 rfl (rd_sn e_13 (Or.inl (by decide)) (rd_sn e_6 (Or.inl (by decide)) p5)) ?_
  refine aw_iast (q := 27) mX1_layPage dX1_layPage_26 rfl kd_10 (by omega) (by omega) (fun μ_26 e_26 => ?_)
  have hl : Lay n μ_26 := by rw [e_26]; exact Lay.setA la_10 hl
  refine aw_aload_n (q := 28) mX1_layPage dX1_layPage_27 rfl rfl ?_
  refine aw_get (t := 2) (ji := 9) (q := 31) mX1_layPage dX1_layPage_28 rfl f1_37 rfl kd_4 rfl (ly_4_9 hl) ?_
  refine aw_iload_n (q := 32) mX1_layPage dX1_layPage_31 rfl rfl ?_
  refine aw_aload_n (q := 33) mX1_layPage dX1_layPage_32 rfl rfl ?_
  refine aw_get (t := 2) (ji := 13) (q := 36) mX1_layPage dX1_layPage_33 rfl f1_61 rfl kd_4 rfl (ly_4_13 hl) ?_
  refine aw_get (t := 0) (ji := 3) (q := 39) mX1_layPage dX1_layPage_36 rfl f1_109 rfl kd_17 rfl (rd_sn e_26 (Or.inl (by decide)) (rd_sn e_13 (Or.inl (by decide)) (rd_sn e_6 (Or.inl (by decide)) p6))) ?_
  refine aw_iast (q := 40) mX1_layPage dX1_layPage_39 rfl kd_11 (by omega) (by omega) (fun μ_39 e_39 => ?_)
  have hl : Lay n μ_39 := by rw [e_39]; exact Lay.setA la_11 hl
  refine aw_aload_n (q := 41) mX1_layPage dX1_layPage_40 rfl rfl ?_
  refine aw_get (t := 2) (ji := 10) (q := 44) mX1_layPage dX1_layPage_41 rfl f1_42 rfl kd_4 rfl (ly_4_10 hl) ?_
  refine aw_iconst (q := 45) mX1_layPage dX1_layPage_44 rfl rfl ?_
  refine aw_ald4 (q := 46) mX1_layPage dX1_layPage_45 rfl kd_12 (by omega) (by omega) (ly_12_0 hl) ?_
  refine aw_iload_n (q := 47) mX1_layPage dX1_layPage_46 rfl rfl ?_
  refine aw_aload_n (q := 48) mX1_layPage dX1_layPage_47 rfl rfl ?_
  refine aw_get (t := 2) (ji := 13) (q := 51) mX1_layPage dX1_layPage_48 rfl f1_61 rfl kd_4 rfl (ly_4_13 hl) ?_
  refine aw_get (t := 2) (ji := 0) (q := 54) mX1_layPage dX1_layPage_51 rfl f1_112 rfl kd_17 rfl (ly_17_0 hl) ?_
  refine aw_get (t := 0) (ji := 11) (q := 57) mX1_layPage dX1_layPage_54 rfl f1_116 rfl kd_18 rfl (rd_sn e_39 (Or.inl (by decide)) (rd_sn e_26 (Or.inl (by decide)) (rd_sn e_13 (Or.inl (by decide)) (rd_sn e_6 (Or.inl (by decide)) ha.1)))) ?_
  refine aw_iast (q := 58) mX1_layPage dX1_layPage_57 rfl kd_13 (by omega) (by omega) (fun μ_57 e_57 => ?_)
  have hl : Lay n μ_57 := by rw [e_57]; exact Lay.setA la_13 hl
  refine aw_aload_n (q := 59) mX1_layPage dX1_layPage_58 rfl rfl ?_
  refine aw_get (t := 2) (ji := 10) (q := 62) mX1_layPage dX1_layPage_59 rfl f1_42 rfl kd_4 rfl (ly_4_10 hl) ?_
  refine aw_iconst (q := 63) mX1_layPage dX1_layPage_62 rfl rfl ?_
  refine aw_ald4 (q := 64) mX1_layPage dX1_layPage_63 rfl kd_12 (by omega) (by omega) (ly_12_1 hl) ?_
  refine aw_iload_n (q := 65) mX1_layPage dX1_layPage_64 rfl rfl ?_
  refine aw_aload_n (q := 66) mX1_layPage dX1_layPage_65 rfl rfl ?_
  refine aw_get (t := 2) (ji := 13) (q := 69) mX1_layPage dX1_layPage_66 rfl f1_61 rfl kd_4 rfl (ly_4_13 hl) ?_
  refine aw_get (t := 2) (ji := 1) (q := 72) mX1_layPage dX1_layPage_69 rfl f1_120 rfl kd_17 rfl (ly_17_1 hl) ?_
  refine aw_get (t := 0) (ji := 11) (q := 75) mX1_layPage dX1_layPage_72 rfl f1_116 rfl kd_25 rfl (rd_sn e_57 (Or.inl (by decide)) (rd_sn e_39 (Or.inl (by decide)) (rd_sn e_26 (Or.inl (by decide)) (rd_sn e_13 (Or.inl (by decide)) (rd_sn e_6 (Or.inl (by decide)) hb'.1))))) ?_
  refine aw_iast (q := 76) mX1_layPage dX1_layPage_75 rfl kd_14 (by omega) (by omega) (fun μ_75 e_75 => ?_)
  have hl : Lay n μ_75 := by rw [e_75]; exact Lay.setA la_14 hl
  refine aw_iconst (q := 77) mX1_layPage dX1_layPage_76 rfl rfl ?_
  refine aw_istore (q := 79) mX1_layPage dX1_layPage_77 rfl (by decide) rfl ?_
  refine aw_iload_n (q := 80) mX1_layPage dX1_layPage_79 rfl rfl ?_
  refine aw_istore (q := 82) mX1_layPage dX1_layPage_80 rfl (by decide) rfl ?_
  have h9 := X (en - fr).toNat 0 μ_75 (9, 0) (by omega) (by
    rw [e_75, e_57, e_39, e_26, e_13, e_6]
    exact (((((Of.rf.set (S0p 8 _ (by omega) rfl)).set (S0p 9 _ (by omega) rfl)).set (S0p 10 _ (by omega) rfl)).set (S0p 11 _ (by omega) rfl)).set (S0p 13 _ (by omega) rfl)).set (S0p 14 _ (by omega) rfl)) (by
    rw [hR0]
    dsimp only
    refine ⟨?_, ?_, ?_, ?_, ?_, ?_⟩
    · rw [e_75, am_sn (Or.inl (by decide)), e_57, am_sn (Or.inl (by decide)), e_39, am_sn (Or.inl (by decide)), e_26, am_sn (Or.inl (by decide)), e_13, am_sn (Or.inl (by decide)), e_6, am_ss]
    · rw [e_75, am_sn (Or.inl (by decide)), e_57, am_sn (Or.inl (by decide)), e_39, am_sn (Or.inl (by decide)), e_26, am_sn (Or.inl (by decide)), e_13, am_ss]
    · rw [e_75, am_sn (Or.inl (by decide)), e_57, am_sn (Or.inl (by decide)), e_39, am_sn (Or.inl (by decide)), e_26, am_ss]
    · rw [e_75, am_sn (Or.inl (by decide)), e_57, am_sn (Or.inl (by decide)), e_39, am_ss]
    · rw [e_75, am_sn (Or.inl (by decide)), e_57, am_ss]
    · rw [e_75, am_ss]) (fun l l0 l1 => by omega)
  rw [show fr + ((0 : Nat) : Int) = fr by omega] at h9
  exact h9

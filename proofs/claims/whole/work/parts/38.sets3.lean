theorem mr_cost_b {μ : am_M} (hB : Bk μ) {rest c : Int} {rw : List Int} (hc0 : 0 ≤ c) (hc1 : c < mr_ch μ rw) (hv : ∀ k ∈ rw, 0 ≤ k ∧ k < μ 32 8) (ht : ∀ k ∈ rw, 0 ≤ μ 49 (μ 34 k) ∧ μ 49 (μ 34 k) ≤ 400) (hl : rw.length ≤ 24) (hr0 : 0 ≤ rest) (h : mr_cost μ rest rw c < rw_NV) : 0 ≤ mr_cost μ rest rw c ∧ mr_cost μ rest rw c ≤ 200000 := by
  obtain ⟨b1, b2, b3, -⟩ := id hB
  have ht0 : 0 ≤ md_top0 μ rest := by unfold md_top0; split <;> omega
  have hok := mr_its_ok hB hc0 hc1 hv ht
  have h1 := (mr_cost_sd hB hr0 h).1
  unfold mr_cost at h ⊢
  split
  · rename_i hn; rw [if_pos hn] at h; omega
  · rename_i hn
    rw [if_neg hn] at h
    split
    · rename_i hn2; rw [if_pos hn2] at h; omega
    · by_cases hne : rw = []
      · rw [hne]
        show 0 ≤ (0 : Int) + _ ∧ (0 : Int) + _ ≤ _
        split <;> omega
      · have h2 := h1 hne
        have h9 := rw_D_b (h := μ 32 2) b2.1 hok ht0 (by omega) h2.2
        rw [mr_its_len] at h9
        split <;> omega
theorem md_sc_bd {μ : am_M} (hB : Bk μ) {rest : Int} {rw : List Int} (hv : ∀ k ∈ rw, 0 ≤ k ∧ k < μ 32 8) (ht : ∀ k ∈ rw, 0 ≤ μ 49 (μ 34 k) ∧ μ 49 (μ 34 k) ≤ 400) (hl : rw.length ≤ 24) (hr0 : 0 ≤ rest) (h : md_sc μ rest rw < rw_NV) : 0 ≤ md_sc μ rest rw ∧ md_sc μ rest rw ≤ 200000 := by
  have hc := mr_ch_pos hB hv
  have hF := fm_is (mr_cost μ rest rw) (mr_ch μ rw).toNat
  rw [show (((mr_ch μ rw).toNat : Nat) : Int) = mr_ch μ rw by omega] at hF
  obtain ⟨k1, k2, k3⟩ := hF.fin h
  have := mr_cost_b hB k1 k2 hv ht hl hr0 (by rw [k3]; exact h)
  rw [k3] at this
  exact this
theorem md_sc_b {μ : am_M} {rest l1 : Int} {rw : List Int} {c : Int} (hB : Bk μ) (hv : ∀ k ∈ rw, 0 ≤ k ∧ k < μ 32 8) (h : FM (mr_cost μ rest rw) (mr_ch μ rw) l1 c) : l1 = md_sc μ rest rw := by
  have := mr_ch_pos hB hv
  exact h.v (by omega)
def Ss (p : Int) (H : List Int) (a j : Int) : Prop := a = 56 ∨ a = 57 ∨ a = 59 ∨ a = 60 ∨ a = 61 ∨ a = 62 ∨ (a = 32 ∧ (j = 39 ∨ j = 40)) ∨ (a = 48 ∧ j = p) ∨ (a = 47 ∧ (j = 2 * p + 2 ∨ j = 2 * p + 3)) ∨ (51 ≤ a ∧ a ≤ 55 ∧ j ∈ H)
theorem Ss_Sw {p : Int} {H : List Int} : ∀ a j, Ss p H a j → Sw a j := fun a j h => by unfold Ss at h; unfold Sw; omega
/-- what stands behind the work on a page -/
def PgB (μ μ' : am_M) (p a b : Int) (H : List Int) : Prop := ∃ bits c0 c1 xs0 xs1, FM (md_dc μ a b H) (am_shl (md_ei μ H)) (μ' 48 p) bits ∧ μ' 48 p < rw_NV ∧ md_best μ a (md_rw μ 0 bits H) c0 ∧ md_best μ b (md_rw μ 1 bits H) c1 ∧ rw_gr (μ 32 2) (μ 32 3) (md_top0 μ a) (mr_its μ c0 (md_rw μ 0 bits H)) xs0 ∧ Pq μ μ' p 0 c0 (md_rw μ 0 bits H) xs0 ∧ rw_gr (μ 32 2) (μ 32 3) (md_top0 μ b) (mr_its μ c1 (md_rw μ 1 bits H)) xs1 ∧ Pq μ μ' p 1 c1 (md_rw μ 1 bits H) xs1 ∧ μ' 47 (2 * p + 2) = mr_carry μ c0 (md_rw μ 0 bits H) ∧ μ' 47 (2 * p + 3) = mr_carry μ c1 (md_rw μ 1 bits H)
theorem Pq.tr {μ μ1 μ' : am_M} {p s c : Int} {rw xs : List Int} (hb : BE μ μ1) (h : Pq μ1 μ' p s c rw xs) : Pq μ μ' p s c rw xs := by
  intro i k x hk hx
  obtain ⟨h1, h2, h3, h4, h5⟩ := h i k x hk hx
  rw [mr_tall_tr hb] at h3 h4
  rw [hb.2 35 k (by decide) (by decide), hb.2 40 k (by decide) (by decide)] at h4
  exact ⟨h1, h2, h3, h4, h5⟩
theorem Pq.keep {μ μ' μ2 : am_M} {p s c : Int} {rw xs : List Int} (h : Pq μ μ' p s c rw xs) (hk : ∀ a k, 51 ≤ a → a ≤ 55 → k ∈ rw → μ2 a k = μ' a k) : Pq μ μ2 p s c rw xs := by
  intro i k x hi hx
  have hm : k ∈ rw := List.mem_of_getElem? hi
  obtain ⟨h1, h2, h3, h4, h5⟩ := h i k x hi hx
  rw [hk 51 k (by decide) (by decide) hm, hk 52 k (by decide) (by decide) hm, hk 53 k (by decide) (by decide) hm, hk 54 k (by decide) (by decide) hm, hk 55 k (by decide) (by decide) hm]
  exact ⟨h1, h2, h3, h4, h5⟩
theorem mr_carry_tr {μ μ1 : am_M} (hb : BE μ μ1) (c : Int) (rw : List Int) : mr_carry μ1 c rw = mr_carry μ c rw := by
  unfold mr_carry
  split
  · rfl
  · rw [mr_tall_tr hb, hb.2 35 _ (by decide) (by decide), hb.2 40 _ (by decide) (by decide)]
theorem md_ei_tr {μ μ1 : am_M} (hb : BE μ μ1) : ∀ H : List Int, md_ei μ1 H = md_ei μ H := by
  intro H
  induction H with
  | nil => rfl
  | cons k r ih => unfold md_ei; rw [ih, hb.2 37 _ (by decide) (by decide)]
/-- the dealings -/
theorem pX7_sets_d (n : Nat) (μ : am_M) (p a b : Int) (H : List Int) (hl0 : Lay n μ) (hB : Bk μ) (hp0 : 0 ≤ p) (hp1 : p ≤ 139) (hA : Ar μ 56 H) (hn : μ 32 39 = (H.length : Int)) (hH : H.length ≤ 24) (hv : ∀ k ∈ H, 0 ≤ k ∧ k < μ 32 8) (hlt : ∀ k ∈ H, 0 ≤ μ 49 (μ 34 k) ∧ μ 49 (μ 34 k) ≤ 400) (ha : μ 47 (2 * p) = a) (hb : μ 47 (2 * p + 1) = b) (ha0 : 0 ≤ a) (ha1 : a ≤ 400) (hb0 : 0 ≤ b) (hb1 : b ≤ 400) (he6 : md_ei μ H ≤ 6) (Q : Option am_V → Nat → am_M → Prop)
    (kk : ∀ (μ2 : am_M) (best bb bits : Int) (v7 v8 v9 v10 v11 v12 v13 v14 v15 : am_V), Of Sx μ μ2 → FM (md_dc μ a b H) (am_shl (md_ei μ H)) best bb → (best < rw_NV → md_best μ a (md_rw μ 0 bb H) (μ2 61 0) ∧ md_best μ b (md_rw μ 1 bb H) (μ2 61 1)) → AW none 120 214 [(2, 32), (0, p), (0, md_ei μ H), (1, best), (9, 0), (0, bb), (0, bits), v7, v8, v9, v10, v11, v12, v13, v14, v15] [] n μ2 Q) :
    ∀ (d : Nat) (bits best bb : Int) (μ1 : am_M) (v7 v8 v9 v10 v11 v12 v13 v14 v15 : am_V), 0 ≤ bits → bits + d = am_shl (md_ei μ H) → Of Sx μ μ1 → FM (md_dc μ a b H) bits best bb → (best < rw_NV → md_best μ a (md_rw μ 0 bb H) (μ1 61 0) ∧ md_best μ b (md_rw μ 1 bb H) (μ1 61 1)) → AW none 120 27 [(2, 32), (0, p), (0, md_ei μ H), (1, best), (9, 0), (0, bb), (0, bits), v7, v8, v9, v10, v11, v12, v13, v14, v15] [] n μ1 Q := by
  have hNV : rw_NV = 1000000000000 := rfl
  have heb := md_ei_b (μ := μ) (l := H)
  have hsb := am_shl_b heb.1 he6
  obtain ⟨ei, hei⟩ : ∃ e, e = md_ei μ H := ⟨_, rfl⟩
  rw [← hei] at kk heb hsb he6 ⊢
  intro d
  induction d with
  | zero =>
    intro bits best bb μ1 v7 v8 v9 v10 v11 v12 v13 v14 v15 hbi0 hbd hO hF hC
    refine aw_iload (q := 29) mX7_sets dX7_sets_27 rfl rfl ?_
    refine aw_iconst (q := 30) mX7_sets dX7_sets_29 rfl rfl ?_
    refine aw_iload_n (q := 31) mX7_sets dX7_sets_30 rfl rfl ?_
    refine aw_ishl (q := 32) mX7_sets dX7_sets_31 rfl rfl ?_
    refine aw_icmp_ge (tgt := 214) (q := 35) mX7_sets dX7_sets_32 rfl (by decide) (fun c_32 => ?_) (fun c_32 => ?_)
    · rw [show bits = am_shl ei by omega] at hF
      exact kk μ1 best bb bits _ _ _ _ _ _ _ _ _ hO hF hC
    · exact absurd c_32 (by show ¬ ¬ am_shl ei ≤ bits; omega)
  | succ d ih =>
    intro bits best bb μ1 v7 v8 v9 v10 v11 v12 v13 v14 v15 hbi0 hbd hO hF hC
    have hl : Lay n μ1 := hl0.ofW (hO.mono Sx_Sw)
    have hBE : BE μ μ1 := (hO.mono Sx_Sw).beW
    have e8 : μ1 32 8 = μ 32 8 := hBE.1 8 (by decide) (by decide)
    have hA1 : Ar μ1 56 H := hA.to (fun j => hO 56 j (by unfold Sx; omega))
    have hn1 : μ1 32 39 = (H.length : Int) := (hO 32 39 (by unfold Sx; omega)).trans hn
    refine aw_iload (q := 29) mX7_sets dX7_sets_27 rfl rfl ?_
    refine aw_iconst (q := 30) mX7_sets dX7_sets_29 rfl rfl ?_
    refine aw_iload_n (q := 31) mX7_sets dX7_sets_30 rfl rfl ?_
    refine aw_ishl (q := 32) mX7_sets dX7_sets_31 rfl rfl ?_
    refine aw_icmp_ge (tgt := 214) (q := 35) mX7_sets dX7_sets_32 rfl (by decide) (fun c_32 => ?_) (fun c_32 => ?_)
    · exact absurd (show am_shl ei ≤ bits from c_32) (by omega)
    · refine aw_aload_n (q := 36) mX7_sets dX7_sets_35 rfl rfl ?_
      refine aw_iload_n (q := 37) mX7_sets dX7_sets_36 rfl rfl ?_
      refine aw_iload (q := 39) mX7_sets dX7_sets_37 rfl rfl ?_
      refine aw_v2 (ci := 7) (q := 42) mX7_sets dX7_sets_39 rfl l7_179 k120_111 rfl kd_32 rfl rfl rfl (pX7_sides n μ1 ei bits H hl (hB.tr hBE) hA1 hn1 hH (fun k hk => by rw [e8]; exact hv k hk) (by omega)) (kvoid (fun μ2 hq => ?_))
      obtain ⟨hO2, hS2⟩ := hq
      rw [md_sds_tr hBE] at hS2
      have hO2' : Of Sx μ μ2 := fun a j hs => (hO2 a j (fun z => hs (Or.inl z))).trans (hO a j hs)
      obtain ⟨Sd, hSd⟩ : ∃ s, s = md_sds μ bits ei H := ⟨_, rfl⟩
      rw [← hSd] at hS2
      have hSl : Sd.length = H.length := by rw [hSd]; exact md_sds_len
      have hr0 : md_ro 0 H Sd = md_rw μ 0 bits H := by rw [hSd, hei]; rfl
      have hr1 : md_ro 1 H Sd = md_rw μ 1 bits H := by rw [hSd, hei]; rfl
      have hrv : ∀ s, ∀ k ∈ md_rw μ s bits H, 0 ≤ k ∧ k < μ 32 8 := fun s k hk => hv k (md_ro_mem hk)
      refine aw_lconst (x := 0) (q := 43) mX7_sets dX7_sets_42 rfl rfl ?_
      refine aw_lstore (q := 45) mX7_sets dX7_sets_43 rfl (by decide) rfl ?_
      refine aw_iconst (q := 46) mX7_sets dX7_sets_45 rfl rfl ?_
      refine aw_istore (q := 48) mX7_sets dX7_sets_46 rfl (by decide) rfl ?_
      refine pX7_sets_s n μ p ei best bb bits 0 0 a H Sd hl0 hB hp0 hp1 (Or.inl rfl) hA hn hSl hH hv hlt (by rw [← ha]; congr 1; omega) ha0 ha1 (by decide) (by decide) Q μ2 _ _ _ _ _ _ hO2' hS2 ?_
      intro μ3 l0 w10 w11 w12 w13 w14 w15 hO3 hS3 h61 h60 hF0 hl00 hl01
      have hs1 : 0 ≤ (if rw_NV ≤ l0 ∨ rw_NV ≤ 0 then rw_NV else 0 + l0) ∧ (if rw_NV ≤ l0 ∨ rw_NV ≤ 0 then rw_NV else 0 + l0) ≤ rw_NV := by split <;> omega
      refine pX7_sets_s n μ p ei best bb bits _ 1 b H Sd hl0 hB hp0 hp1 (Or.inr rfl) hA hn hSl hH hv hlt hb hb0 hb1 hs1.1 hs1.2 Q μ3 _ _ _ _ _ _ hO3 hS3 ?_
      intro μ4 l1 y10 y11 y12 y13 y14 y15 hO4 hS4 h61' h60' hF1 hl10 hl11
      rw [hr0] at hF0
      rw [hr1] at hF1
      have e0 := md_sc_b hB (hrv 0) hF0
      have e1 := md_sc_b hB (hrv 1) hF1
      have hdc : (if rw_NV ≤ l1 ∨ rw_NV ≤ (if rw_NV ≤ l0 ∨ rw_NV ≤ 0 then rw_NV else 0 + l0) then rw_NV else (if rw_NV ≤ l0 ∨ rw_NV ≤ 0 then rw_NV else 0 + l0) + l1) = md_dc μ a b H bits := by
        rw [e0, e1]; rfl
      rw [hdc]
      obtain ⟨dc, hdc'⟩ : ∃ x, x = md_dc μ a b H bits := ⟨_, rfl⟩
      rw [← hdc']
      have hl : Lay n μ4 := hl0.ofW (hO4.mono Sx_Sw)
      refine aw_iload (q := 50) mX7_sets dX7_sets_48 rfl rfl ?_
      refine aw_iconst (q := 51) mX7_sets dX7_sets_50 rfl rfl ?_
      refine aw_icmp_ge (tgt := 167) (q := 54) mX7_sets dX7_sets_51 rfl (by decide) (fun c_51 => ?_) (fun c_51 => ?_)
      · refine aw_lload (q := 169) mX7_sets dX7_sets_167 rfl rfl ?_
        refine aw_lload_n (q := 170) mX7_sets dX7_sets_169 rfl rfl ?_
        refine aw_lcmp (q := 171) mX7_sets dX7_sets_170 rfl ?_
        refine aw_if_lt (tgt := 177) (q := 174) mX7_sets dX7_sets_171 rfl (by decide) (fun c_171 => ?_) (fun c_171 => ?_)
        · have hlt2 : dc < best := am_cmp_lt.mp c_171
          refine aw_lload (q := 179) mX7_sets dX7_sets_177 rfl rfl ?_
          refine aw_lstore_n (q := 180) mX7_sets dX7_sets_179 rfl (by decide) rfl ?_
          refine aw_iload (q := 182) mX7_sets dX7_sets_180 rfl rfl ?_
          refine aw_istore (q := 184) mX7_sets dX7_sets_182 rfl (by decide) rfl ?_
          refine aw_aload_n (q := 185) mX7_sets dX7_sets_184 rfl rfl ?_
          refine aw_get (t := 2) (ji := 42) (q := 188) mX7_sets dX7_sets_185 rfl f7_108 rfl kd_32 rfl (ly_32_42 hl) ?_
          refine aw_iconst (q := 189) mX7_sets dX7_sets_188 rfl rfl ?_
          refine aw_aload_n (q := 190) mX7_sets dX7_sets_189 rfl rfl ?_
          refine aw_get (t := 2) (ji := 41) (q := 193) mX7_sets dX7_sets_190 rfl f7_105 rfl kd_32 rfl (ly_32_41 hl) ?_
          refine aw_iconst (q := 194) mX7_sets dX7_sets_193 rfl rfl ?_
          refine aw_iald (q := 195) mX7_sets dX7_sets_194 rfl kd_60 (by omega) (by omega) rfl ?_
          refine aw_iast (q := 196) mX7_sets dX7_sets_195 rfl kd_61 (by omega) (by omega) (fun μ_195 e_195 => ?_)
          have hl : Lay n μ_195 := by rw [e_195]; exact Lay.setA la_61 hl
          refine aw_aload_n (q := 197) mX7_sets dX7_sets_196 rfl rfl ?_
          refine aw_get (t := 2) (ji := 42) (q := 200) mX7_sets dX7_sets_197 rfl f7_108 rfl kd_32 rfl (ly_32_42 hl) ?_
          refine aw_iconst (q := 201) mX7_sets dX7_sets_200 rfl rfl ?_
          refine aw_aload_n (q := 202) mX7_sets dX7_sets_201 rfl rfl ?_
          refine aw_get (t := 2) (ji := 41) (q := 205) mX7_sets dX7_sets_202 rfl f7_105 rfl kd_32 rfl (ly_32_41 hl) ?_
          refine aw_iconst (q := 206) mX7_sets dX7_sets_205 rfl rfl ?_
          refine aw_iald (q := 207) mX7_sets dX7_sets_206 rfl kd_60 (by omega) (by omega) rfl ?_
          refine aw_iast (q := 208) mX7_sets dX7_sets_207 rfl kd_61 (by omega) (by omega) (fun μ_207 e_207 => ?_)
          have hl : Lay n μ_207 := by rw [e_207]; exact Lay.setA la_61 hl
          refine aw_iinc (q := 211) mX7_sets dX7_sets_208 rfl rfl (by decide) (by omega) (by omega) rfl ?_
          refine aw_goto (q := 27) mX7_sets dX7_sets_211 (by decide) ?_
          have hF2 := hF.take hbi0 (by rw [← hdc']; exact hlt2)
          rw [← hdc'] at hF2
          refine ih (bits + 1) dc bits μ_207 _ _ _ _ _ _ _ _ _ (by omega) (by omega) (by rw [e_207, e_195]; exact (hO4.set (by unfold Sx; omega)).set (by unfold Sx; omega)) hF2 (fun hfin => ?_)
          have z0 : μ_207 61 0 = μ3 60 0 := by rw [e_207, am_sn (Or.inr (by decide)), e_195, am_ss]; exact h60' 0 (by decide)
          have z1 : μ_207 61 1 = μ4 60 1 := by rw [e_207, am_ss, e_195, am_sn (Or.inl (by decide))]
          rw [z0, z1]
          unfold md_best
          rw [← e0, ← e1]
          exact ⟨hF0, hF1⟩
        · have hge : ¬ dc < best := fun z => c_171 (am_cmp_lt.mpr z)
          refine aw_goto (q := 208) mX7_sets dX7_sets_174 (by decide) ?_
          refine aw_iinc (q := 211) mX7_sets dX7_sets_208 rfl rfl (by decide) (by omega) (by omega) rfl ?_
          refine aw_goto (q := 27) mX7_sets dX7_sets_211 (by decide) ?_
          refine ih (bits + 1) best bb μ4 _ _ _ _ _ _ _ _ _ (by omega) (by omega) hO4 (hF.skip (by rw [← hdc']; exact hge)) (fun hfin => ?_)
          rw [h61', h61', h61, h61, hO2 61 0 (by decide), hO2 61 1 (by decide)]
          exact hC hfin
      · exact absurd c_51 (by decide)
/-- sets -/
theorem pX7_sets (n : Nat) (μ : am_M) (p fr many a b : Int) (hl0 : Lay n μ) (hB : Bk μ) (hp0 : 0 ≤ p) (hp1 : p ≤ 139) (hfr : μ 45 p = fr) (hmn : μ 46 p = many) (hf : 0 ≤ fr) (hm0 : 0 ≤ many) (hmm : fr + many ≤ μ 32 7) (hlt : ∀ l, fr ≤ l → l < fr + many → 0 ≤ μ 49 l ∧ μ 49 l ≤ 400) (ha : μ 47 (2 * p) = a) (hb : μ 47 (2 * p + 1) = b) (ha0 : 0 ≤ a) (ha1 : a ≤ 400) (hb0 : 0 ≤ b) (hb1 : b ≤ 400) (hheld : md_held μ fr many a b) :
    AC 120 [(2, 32), (0, p)] n μ (PV n (fun μ' => Of (Ss p (md_hr μ fr many.toNat)) μ μ' ∧ PgB μ μ' p a b (md_hr μ fr many.toNat))) := by
  have hNV : rw_NV = 1000000000000 := rfl
  obtain ⟨b1, b2, b3, b4, b5, b6, b7, b8, b9⟩ := id hB
  obtain ⟨-, he6, bits0, hb00, hb01, hcan0, hcan1⟩ := hheld
  obtain ⟨H, hH⟩ : ∃ H, H = md_hr μ fr many.toNat := ⟨_, rfl⟩
  rw [← hH] at he6 hb01 hcan0 hcan1 ⊢
  have hHl : H.length ≤ 24 := by rw [hH]; exact Nat.le_trans md_hr_le (by omega)
  have hHm : ∀ k ∈ H, 0 ≤ k ∧ k < ((μ 32 8).toNat : Int) ∧ fr ≤ μ 34 k ∧ μ 34 k < fr + ((many.toNat : Nat) : Int) := fun k hk => by rw [hH] at hk; exact md_hr_mem hk
  have hHv : ∀ k ∈ H, 0 ≤ k ∧ k < μ 32 8 := fun k hk => by have := hHm k hk; omega
  have hHt : ∀ k ∈ H, 0 ≤ μ 49 (μ 34 k) ∧ μ 49 (μ 34 k) ≤ 400 := fun k hk => by have := hHm k hk; exact hlt _ (by omega) (by omega)
  have hnd : H.Nodup := by rw [hH]; exact md_hr_nodup _
  have heb := md_ei_b (μ := μ) (l := H)
  have hsb := am_shl_b heb.1 he6
  have hl := hl0
  refine AC.of rfl ?_
  have hg := pX7_gather n μ fr many hl0 hB hf hm0 (by omega)
  rw [← hH] at hg
  refine aw_aload_n (q := 1) mX7_sets dX7_sets_0 rfl rfl ?_
  refine aw_aload_n (q := 2) mX7_sets dX7_sets_1 rfl rfl ?_
  refine aw_get (t := 2) (ji := 24) (q := 5) mX7_sets dX7_sets_2 rfl f7_59 rfl kd_32 rfl (ly_32_24 hl) ?_
  refine aw_iload_n (q := 6) mX7_sets dX7_sets_5 rfl rfl ?_
  refine aw_iald (q := 7) mX7_sets dX7_sets_6 rfl kd_45 (by omega) (by omega) hfr ?_
  refine aw_aload_n (q := 8) mX7_sets dX7_sets_7 rfl rfl ?_
  refine aw_get (t := 2) (ji := 25) (q := 11) mX7_sets dX7_sets_8 rfl f7_62 rfl kd_32 rfl (ly_32_25 hl) ?_
  refine aw_iload_n (q := 12) mX7_sets dX7_sets_11 rfl rfl ?_
  refine aw_iald (q := 13) mX7_sets dX7_sets_12 rfl kd_46 (by omega) (by omega) hmn ?_
  refine aw_v2 (ci := 7) (q := 16) mX7_sets dX7_sets_13 rfl l7_176 k120_110 rfl kd_32 rfl rfl rfl (hg) (kint (fun x μg hx => ?_))
  obtain ⟨hx, hOg, hAg, hng⟩ := hx
  have hSx : ∀ {μ2 : am_M}, Of Sx μg μ2 → Of (Ss p H) μ μ2 := fun h a j hs => (h a j (fun z => hs (by unfold Sx at z; unfold Ss; omega))).trans (hOg a j (fun z => hs (by unfold Sg at z; unfold Ss; omega)))
  have hlg : Lay n μg := hl0.ofW (hOg.mono Sg_Sw)
  have hBE : BE μ μg := (hOg.mono Sg_Sw).beW
  have hBg := hB.tr hBE
  have e49 : ∀ j, μg 49 j = μ 49 j := fun j => hOg 49 j (by unfold Sg; omega)
  have e8 : μg 32 8 = μ 32 8 := hBE.1 8 (by decide) (by decide)
  have hHvg : ∀ k ∈ H, 0 ≤ k ∧ k < μg 32 8 := fun k hk => by rw [e8]; exact hHv k hk
  have hHtg : ∀ k ∈ H, 0 ≤ μg 49 (μg 34 k) ∧ μg 49 (μg 34 k) ≤ 400 := fun k hk => by rw [e49, hBE.2 34 k (by decide) (by decide)]; exact hHt k hk
  have heig : md_ei μg H = md_ei μ H := md_ei_tr hBE H
  have hag : μg 47 (2 * p) = a := (hOg 47 _ (by unfold Sg; omega)).trans ha
  have hbg : μg 47 (2 * p + 1) = b := (hOg 47 _ (by unfold Sg; omega)).trans hb
  have hrwg : ∀ s bits, md_rw μg s bits H = md_rw μ s bits H := fun s bits => by unfold md_rw; rw [heig, md_sds_tr hBE]
  have hcog : ∀ rest rw, mr_cost μg rest rw = mr_cost μ rest rw := fun rest rw => by
    funext c
    unfold mr_cost
    rw [mr_its_tr hBE e49, md_top0_tr hBE, hBE.1 2 (by decide) (by decide), hBE.1 3 (by decide) (by decide), hBE.1 4 (by decide) (by decide)]
  have hscg : ∀ rest rw, md_sc μg rest rw = md_sc μ rest rw := fun rest rw => by unfold md_sc; rw [hcog, mr_ch_tr hBE]
  have hdcg : md_dc μg a b H = md_dc μ a b H := by funext bits; unfold md_dc; rw [hscg, hscg, hrwg, hrwg]
  have hbsg : ∀ rest rw c, md_best μg rest rw c = md_best μ rest rw c := fun rest rw c => by unfold md_best; rw [hcog, hscg, mr_ch_tr hBE]
  have hrv : ∀ s bits, ∀ k ∈ md_rw μ s bits H, 0 ≤ k ∧ k < μ 32 8 := fun s bits k hk => hHv k (md_ro_mem hk)
  have hrt : ∀ s bits, ∀ k ∈ md_rw μ s bits H, 0 ≤ μ 49 (μ 34 k) ∧ μ 49 (μ 34 k) ≤ 400 := fun s bits k hk => hHt k (md_ro_mem hk)
  have hrl : ∀ s bits, (md_rw μ s bits H).length ≤ 24 := fun s bits => Nat.le_trans md_ro_le hHl
  rw [hx]
  refine aw_istore_n (q := 17) mX7_sets dX7_sets_16 rfl (by decide) rfl ?_
  refine aw_ldc2 (q := 20) mX7_sets dX7_sets_17 rfl ld7_198 ?_
  refine aw_lstore_n (q := 21) mX7_sets dX7_sets_20 rfl (by decide) rfl ?_
  refine aw_iconst (q := 22) mX7_sets dX7_sets_21 rfl rfl ?_
  refine aw_istore (q := 24) mX7_sets dX7_sets_22 rfl (by decide) rfl ?_
  refine aw_iconst (q := 25) mX7_sets dX7_sets_24 rfl rfl ?_
  refine aw_istore (q := 27) mX7_sets dX7_sets_25 rfl (by decide) rfl ?_
  have hd := pX7_sets_d n μg p a b H hlg hBg hp0 hp1 hAg hng hHl hHvg hHtg hag hbg ha0 ha1 hb0 hb1 (by rw [heig]; exact he6) (PV n (fun μ' => Of (Ss p H) μ μ' ∧ PgB μ μ' p a b H))
  rw [heig, hdcg] at hd
  simp only [hbsg, hrwg] at hd
  refine hd ?_ (am_shl (md_ei μ H)).toNat 0 1000000000000 0 μg _ _ _ _ _ _ _ _ _ (by decide) (by omega) Of.rf FM.zero (fun z => absurd z (by decide))
  clear hd
  intro μ2 best bb bits v7 v8 v9 v10 v11 v12 v13 v14 v15 hO2 hF hC
  have hfin : best < rw_NV := by
    refine (hF.le hb00 hb01 ?_).1
    have q0 := (mr_can_iff hB (hrv 0 bits0) (hrt 0 bits0) (hrl 0 bits0) ha0).mp hcan0
    have q1 := (mr_can_iff hB (hrv 1 bits0) (hrt 1 bits0) (hrl 1 bits0) hb0).mp hcan1
    have p0 : 0 ≤ md_sc μ a (md_rw μ 0 bits0 H) ∧ md_sc μ a (md_rw μ 0 bits0 H) ≤ 200000 := md_sc_bd hB (hrv 0 bits0) (hrt 0 bits0) (hrl 0 bits0) ha0 q0
    have p1 : 0 ≤ md_sc μ b (md_rw μ 1 bits0 H) ∧ md_sc μ b (md_rw μ 1 bits0 H) ≤ 200000 := md_sc_bd hB (hrv 1 bits0) (hrt 1 bits0) (hrl 1 bits0) hb0 q1
    unfold md_dc
    rw [show md_add 0 (md_sc μ a (md_rw μ 0 bits0 H)) = md_sc μ a (md_rw μ 0 bits0 H) by unfold md_add; rw [if_neg (by omega)]; omega]
    unfold md_add
    rw [if_neg (by omega)]
    omega
  obtain ⟨hc0, hc1⟩ := hC hfin
  obtain ⟨f0, f1, f2⟩ := hF.fin hfin
  have hdl : md_dc μ a b H bb < rw_NV := by rw [f2]; exact hfin
  have hd1 := md_add_lt hdl
  have hd2 := md_add_lt hd1.2.1
  have hl2 : Lay n μ2 := hlg.ofW (hO2.mono Sx_Sw)
  have hl := hl2
  have hOs2 := hSx hO2
  refine aw_aload_n (q := 215) mX7_sets dX7_sets_214 rfl rfl ?_
  refine aw_get (t := 2) (ji := 27) (q := 218) mX7_sets dX7_sets_215 rfl f7_68 rfl kd_32 rfl (ly_32_27 hl) ?_
  refine aw_iload_n (q := 219) mX7_sets dX7_sets_218 rfl rfl ?_
  refine aw_lload_n (q := 220) mX7_sets dX7_sets_219 rfl rfl ?_
  refine aw_last (q := 221) mX7_sets dX7_sets_220 rfl kd_48 (by omega) (by omega) (fun μ_220 e_220 => ?_)
  have hl : Lay n μ_220 := by rw [e_220]; exact Lay.setA la_48 hl
  have hOs3 : Of (Ss p H) μ μ_220 := by rw [e_220]; exact hOs2.set (by unfold Ss; omega)
  have hBE3 : BE μ μ_220 := (hOs3.mono Ss_Sw).beW
  have hA3 : Ar μ_220 56 H := (hAg.to (fun j => hO2 56 j (by unfold Sx; omega))).to (fun j => by rw [e_220, am_sn (Or.inl (by decide))])
  have hn3 : μ_220 32 39 = (H.length : Int) := by rw [e_220, am_sn (Or.inl (by decide)), hO2 32 39 (by unfold Sx; omega)]; exact hng
  have hB3 := hB.tr hBE3
  have e83 : μ_220 32 8 = μ 32 8 := hBE3.1 8 (by decide) (by decide)
  have h48 : μ_220 48 p = best := by rw [e_220, am_ss]
  refine aw_aload_n (q := 222) mX7_sets dX7_sets_221 rfl rfl ?_
  refine aw_iload_n (q := 223) mX7_sets dX7_sets_222 rfl rfl ?_
  refine aw_iload (q := 225) mX7_sets dX7_sets_223 rfl rfl ?_
  refine aw_v2 (ci := 7) (q := 228) mX7_sets dX7_sets_225 rfl l7_179 k120_111 rfl kd_32 rfl rfl rfl (pX7_sides n μ_220 (md_ei μ H) bb H hl hB3 hA3 hn3 hHl (fun k hk => by rw [e83]; exact hHv k hk) (by omega)) (kvoid (fun μ4 hq => ?_))
  obtain ⟨hO4, hS4⟩ := hq
  rw [md_sds_tr hBE3] at hS4
  have hOs4 : Of (Ss p H) μ μ4 := fun a j hs => (hO4 a j (fun z => hs (by unfold Ss; omega))).trans (hOs3 a j hs)
  have hl4 : Lay n μ4 := hl0.ofW (hOs4.mono Ss_Sw)
  have hl := hl4
  have hBE4 : BE μ μ4 := (hOs4.mono Ss_Sw).beW
  have e494 : ∀ j, μ4 49 j = μ 49 j := fun j => hOs4 49 j (by unfold Ss; omega)
  have hA4 : Ar μ4 56 H := hA3.to (fun j => hO4 56 j (by decide))
  have hn4 : μ4 32 39 = (H.length : Int) := (hO4 32 39 (by decide)).trans hn3
  have hB4 := hB.tr hBE4
  have e84 : μ4 32 8 = μ 32 8 := hBE4.1 8 (by decide) (by decide)
  have h614 : ∀ j, μ4 61 j = μ2 61 j := fun j => by rw [hO4 61 j (by decide), e_220, am_sn (Or.inl (by decide))]
  obtain ⟨g0, g1, g2⟩ := hc0.fin hd2.1
  obtain ⟨i0, i1, i2⟩ := hc1.fin hd1.1
  have hfin0 := (mr_cost_sd hB ha0 (rest := a) (c := μ2 61 0) (rw := md_rw μ 0 bb H) (by rw [g2]; exact hd2.1)).1
  have hfin1 := (mr_cost_sd hB hb0 (rest := b) (c := μ2 61 1) (rw := md_rw μ 1 bb H) (by rw [i2]; exact hd1.1)).1
  have hp_0 := pX7_places n μ4 p 0 (μ2 61 0) a H (md_sds μ bb (md_ei μ H) H) hl4 hB4 hA4 hS4 hn4 md_sds_len hHl (fun k hk => by rw [e84]; exact hHv k hk) hnd (fun k hk => by rw [e494, hBE4.2 34 k (by decide) (by decide)]; exact hHt k hk) hp0 hp1 (Or.inl rfl) (h614 0) (by rw [hOs4 47 _ (by unfold Ss; omega), ← ha]; congr 1; omega) ha0 ha1 g0 (by rw [mr_ch_tr hBE4]; exact g1) (fun hne => by rw [md_top0_tr hBE4, mr_its_tr hBE4 e494, hBE4.1 2 (by decide) (by decide), hBE4.1 3 (by decide) (by decide)]; exact hfin0 hne)
  rw [mr_its_tr hBE4 e494, md_top0_tr hBE4, hBE4.1 2 (by decide) (by decide), hBE4.1 3 (by decide) (by decide), mr_carry_tr hBE4] at hp_0
  refine aw_iconst (q := 229) mX7_sets dX7_sets_228 rfl rfl ?_
  refine aw_istore (q := 231) mX7_sets dX7_sets_229 rfl (by decide) rfl ?_
  refine aw_iload (q := 233) mX7_sets dX7_sets_231 rfl rfl ?_
  refine aw_iconst (q := 234) mX7_sets dX7_sets_233 rfl rfl ?_
  refine aw_icmp_ge (tgt := 250) (q := 237) mX7_sets dX7_sets_234 rfl (by decide) (fun c_234 => ?_) (fun c_234 => ?_)
  · exact absurd c_234 (by decide)
  · refine aw_aload_n (q := 238) mX7_sets dX7_sets_237 rfl rfl ?_
    refine aw_iload_n (q := 239) mX7_sets dX7_sets_238 rfl rfl ?_
    refine aw_iload (q := 241) mX7_sets dX7_sets_239 rfl rfl ?_
    refine aw_v2 (ci := 7) (q := 244) mX7_sets dX7_sets_241 rfl l7_216 k120_121 rfl kd_32 rfl rfl rfl (hp_0) (kvoid (fun μ5 hq => ?_))
    obtain ⟨hO5, h475, xs0, hgr0, hPq0⟩ := hq
    have hPq0' := hPq0.tr hBE4
    have hOs5 : Of (Ss p H) μ μ5 := fun a j hs => (hO5 a j (fun z => hs (by
      unfold Sq Sp at z
      unfold Ss
      rcases z with z | z | z | z | z
      · omega
      · omega
      · omega
      · omega
      · have := md_ro_mem z.2.2
        simp only [this, and_true]
        omega))).trans (hOs4 a j hs)
    have hl5 : Lay n μ5 := hl0.ofW (hOs5.mono Ss_Sw)
    have hl := hl5
    have hBE5 : BE μ μ5 := (hOs5.mono Ss_Sw).beW
    have hBE5' : BE μ4 μ5 := (hO5.mono Sq_Sw).beW
    have e495 : ∀ j, μ5 49 j = μ 49 j := fun j => hOs5 49 j (by unfold Ss; omega)
    have hA5 : Ar μ5 56 H := hA4.to (fun j => hO5 56 j (by unfold Sq Sp; omega))
    have hS5 : Ar μ5 57 (md_sds μ bb (md_ei μ H) H) := hS4.to (fun j => hO5 57 j (by unfold Sq Sp; omega))
    have hn5 : μ5 32 39 = (H.length : Int) := (hO5 32 39 (by unfold Sq Sp; omega)).trans hn4
    have hB5 := hB.tr hBE5
    have e85 : μ5 32 8 = μ 32 8 := hBE5.1 8 (by decide) (by decide)
    have h615 : ∀ j, μ5 61 j = μ2 61 j := fun j => by rw [hO5 61 j (by unfold Sq Sp; omega)]; exact h614 j
    have hp_1 := pX7_places n μ5 p 1 (μ2 61 1) b H (md_sds μ bb (md_ei μ H) H) hl5 hB5 hA5 hS5 hn5 md_sds_len hHl (fun k hk => by rw [e85]; exact hHv k hk) hnd (fun k hk => by rw [e495, hBE5.2 34 k (by decide) (by decide)]; exact hHt k hk) hp0 hp1 (Or.inr rfl) (h615 1) (by rw [hOs5 47 _ (by unfold Ss; omega), ← hb]) hb0 hb1 i0 (by rw [mr_ch_tr hBE5]; exact i1) (fun hne => by rw [md_top0_tr hBE5, mr_its_tr hBE5 e495, hBE5.1 2 (by decide) (by decide), hBE5.1 3 (by decide) (by decide)]; exact hfin1 hne)
    rw [mr_its_tr hBE5 e495, md_top0_tr hBE5, hBE5.1 2 (by decide) (by decide), hBE5.1 3 (by decide) (by decide), mr_carry_tr hBE5] at hp_1
    refine aw_iinc (q := 247) mX7_sets dX7_sets_244 rfl rfl (by decide) (by omega) (by omega) rfl ?_
    refine aw_goto (q := 231) mX7_sets dX7_sets_247 (by decide) ?_
    refine aw_iload (q := 233) mX7_sets dX7_sets_231 rfl rfl ?_
    refine aw_iconst (q := 234) mX7_sets dX7_sets_233 rfl rfl ?_
    refine aw_icmp_ge (tgt := 250) (q := 237) mX7_sets dX7_sets_234 rfl (by decide) (fun c_234 => ?_) (fun c_234 => ?_)
    · exact absurd c_234 (by decide)
    · refine aw_aload_n (q := 238) mX7_sets dX7_sets_237 rfl rfl ?_
      refine aw_iload_n (q := 239) mX7_sets dX7_sets_238 rfl rfl ?_
      refine aw_iload (q := 241) mX7_sets dX7_sets_239 rfl rfl ?_
      refine aw_v2 (ci := 7) (q := 244) mX7_sets dX7_sets_241 rfl l7_216 k120_121 rfl kd_32 rfl rfl rfl (hp_1) (kvoid (fun μ6 hq => ?_))
      obtain ⟨hO6, h476, xs1, hgr1, hPq1⟩ := hq
      have hPq1' := hPq1.tr hBE5
      have hOs6 : Of (Ss p H) μ μ6 := fun a j hs => (hO6 a j (fun z => hs (by
        unfold Sq Sp at z
        unfold Ss
        rcases z with z | z | z | z | z
        · omega
        · omega
        · omega
        · omega
        · have := md_ro_mem z.2.2
          simp only [this, and_true]
          omega))).trans (hOs5 a j hs)
      refine aw_iinc (q := 247) mX7_sets dX7_sets_244 rfl rfl (by decide) (by omega) (by omega) rfl ?_
      refine aw_goto (q := 231) mX7_sets dX7_sets_247 (by decide) ?_
      refine aw_iload (q := 233) mX7_sets dX7_sets_231 rfl rfl ?_
      refine aw_iconst (q := 234) mX7_sets dX7_sets_233 rfl rfl ?_
      refine aw_icmp_ge (tgt := 250) (q := 237) mX7_sets dX7_sets_234 rfl (by decide) (fun c_234 => ?_) (fun c_234 => ?_)
      · refine aw_vret mX7_sets dX7_sets_250 ?_
        refine ⟨rfl, rfl, hOs6, bb, μ2 61 0, μ2 61 1, xs0, xs1, ?_⟩
        have h486 : μ6 48 p = best := by
          rw [hO6 48 p (by unfold Sq Sp; omega), hO5 48 p (by unfold Sq Sp; omega), hO4 48 p (by decide)]; exact h48
        rw [h486]
        refine ⟨hF, hfin, hc0, hc1, hgr0, ?_, hgr1, hPq1', ?_, ?_⟩
        · refine hPq0'.keep (fun q k q1 q2 hk => hO6 q k (fun z => ?_))
          unfold Sq Sp at z
          rcases z with z | z | z | z | z
          · omega
          · omega
          · omega
          · omega
          · exact md_ro_disj hnd hk z.2.2
        · rw [hO6 47 _ (by unfold Sq Sp; omega)]
          exact (congrArg (μ5 47) (by omega)).trans h475
        · exact (congrArg (μ6 47) (by omega)).trans h476
      · exact absurd c_234 (by decide)

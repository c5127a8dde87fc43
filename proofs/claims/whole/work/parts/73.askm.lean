/-! the reference: questions -/
theorem qm_end {n : Nat} {μ μ2 μf m : am_M} {F : am_M → Int → Int → Prop} {x w : Int} (hO : Of Sw μ μ2) (hM : Mp μ2) (hb : BE μ m) (hMS : MS m) (hf : F m x w) (h : μf = am_set μ2 32 0 w ∨ (μf = μ2 ∧ μ2 32 0 = w)) : ∃ y, some ((0 : Nat), x) = some (0, y) ∧ n = n ∧ Of Sw μ μf ∧ Mp μf ∧ ∃ m, BE μ m ∧ MS m ∧ F m y (μf 32 0) := by
  have hOf : Of Sst μ2 μf := by
    rcases h with h | ⟨h, -⟩
    · rw [h]; exact Of.rf.set (Or.inr ⟨rfl, Or.inl rfl⟩)
    · rw [h]; exact Of.rf
  have hw : μf 32 0 = w := by
    rcases h with h | ⟨h, h2⟩
    · rw [h, am_ss]
    · rw [h]; exact h2
  have hOw : Of Sw μ2 μf := by
    rcases h with h | ⟨h, -⟩
    · rw [h]; exact Of.rf.set (by unfold Sw; omega)
    · rw [h]; exact Of.rf
  refine ⟨x, rfl, rfl, hO.tr hOw, hM.keep (Sst.be hOf) (fun j _ _ => hOf 32 j (by unfold Sst; omega)) (fun a j _ _ => hOf a j (by unfold Sst; omega)), m, hb, hMS, by rw [hw]; exact hf⟩
/-- status and thrown are 0 -/
theorem qm_start {n : Nat} {μ μa μb : am_M} (hl : Lay n μ) (hB : Bk μ) (hD : Bd μ) (hM : Mp μ) (ha : μa = am_set μ 32 1 0) (hb : μb = am_set μa 32 0 0) : Of Sw μ μb ∧ Lay n μb ∧ Bk μb ∧ Bd μb ∧ Mp μb ∧ BE μ μb ∧ μb 32 0 = 0 := by
  have hO : Of Sst μ μb := by rw [hb, ha]; exact (Of.rf.set (Or.inr ⟨rfl, Or.inr rfl⟩)).set (Or.inr ⟨rfl, Or.inl rfl⟩)
  exact ⟨by rw [hb, ha]; exact (Of.rf.set (by unfold Sw; omega)).set (by unfold Sw; omega), Sst_lay hl hO, hB.tr (Sst.be hO), hD.tr (Sst.be hO) (fun k => hO 43 k (by unfold Sst; omega)), hM.keep (Sst.be hO) (fun j _ _ => hO 32 j (by unfold Sst; omega)) (fun a j _ _ => hO a j (by unfold Sst; omega)), (Sst.be hO), by rw [hb, am_ss]⟩
theorem Sa_0 {μ μ1 : am_M} (h : Of Sa μ μ1) : μ1 32 0 = μ 32 0 := h 32 0 (by unfold Sa; omega)
theorem qm_pages {n : Nat} {μ : am_M} (hl : Lay n μ) (hB : Bk μ) (hD : Bd μ) (hM : Mp μ) : QM 125 [] n μ (Fq ft_pages vl_pages) := by
  have hJl := hl
  refine AC.of rfl ?_
  refine aw_aload_n (q := 1) mX7_pages dX7_pages_0 rfl rfl ?_
  refine aw_iconst (q := 2) mX7_pages dX7_pages_1 rfl rfl ?_
  refine aw_put (t := 0) (ji := 1) (q := 5) mX7_pages dX7_pages_2 rfl f7_123 rfl kd_32 rfl (Or.inl rfl) (Or.inl (by decide)) (fun μ_2 e_2 => ?_)
  have hl : Lay n μ_2 := by rw [e_2]; exact Lay.setF lf_32_1 hl
  refine aw_aload_n (q := 6) mX7_pages dX7_pages_5 rfl rfl ?_
  refine aw_iconst (q := 7) mX7_pages dX7_pages_6 rfl rfl ?_
  refine aw_put (t := 0) (ji := 0) (q := 10) mX7_pages dX7_pages_7 rfl f7_126 rfl kd_32 rfl (Or.inl rfl) (Or.inl (by decide)) (fun μ_7 e_7 => ?_)
  have hl : Lay n μ_7 := by rw [e_7]; exact Lay.setF lf_32_0 hl
  refine aw_aload_n (q := 11) mX7_pages dX7_pages_10 rfl rfl ?_
  obtain ⟨s1, s2, s3, s4, s5, s6, s7⟩ := qm_start hJl hB hD hM e_2 e_7
  refine aw_v0 (ci := 7) (q := 14) mX7_pages dX7_pages_11 rfl l7_239 k125_124 rfl kd_32 rfl rfl rfl (pX7_lacks n μ_7 s2 s3 s5) (kint (fun y μ1 hy => ?_))
  obtain ⟨o1, o2, o3, hy⟩ := hy
  have hO : Of Sw μ μ1 := s1.tr (o1.mono Sa_Sw)
  have hb : BE μ μ1 := hO.beW
  have hl := s2.ofW (o1.mono Sa_Sw)
  refine aw_if_eq (tgt := 26) (q := 17) mX7_pages dX7_pages_14 rfl (by decide) (fun c_14 => ?_) (fun c_14 => ?_)
  · refine aw_aload_n (q := 27) mX7_pages dX7_pages_26 rfl rfl ?_
    refine aw_get (t := 0) (ji := 23) (q := 30) mX7_pages dX7_pages_27 rfl f7_226 rfl kd_32 rfl rfl ?_
    refine aw_iret mX7_pages dX7_pages_30 ?_
    exact qm_end hO (Or.inl ⟨o2, o3⟩) hb o3 (Or.inr ⟨by unfold ft_pages; rw [if_neg (by omega)], rfl, rfl⟩) (Or.inr ⟨rfl, by rw [Sa_0 o1]; exact s7⟩)
  · refine aw_aload_n (q := 18) mX7_pages dX7_pages_17 rfl rfl ?_
    refine aw_bipush (q := 20) mX7_pages dX7_pages_18 rfl rfl ?_
    refine aw_v1 (ci := 7) (q := 23) mX7_pages dX7_pages_20 rfl l7_147 k125_89 rfl kd_32 rfl rfl rfl (pX7_refuse n μ1 6) (kset (fun μ4 h4 => ?_))
    refine aw_goto (q := 30) mX7_pages dX7_pages_23 (by decide) ?_
    refine aw_iret mX7_pages dX7_pages_30 ?_
    exact qm_end hO (Or.inl ⟨o2, o3⟩) hb o3 (Or.inl ⟨by unfold ft_pages; rw [if_pos (by omega)]; decide, rfl, by unfold ft_pages; rw [if_pos (by omega)]⟩) (Or.inl h4)
theorem qm_pageOf {n : Nat} {μ : am_M} (hl : Lay n μ) (hB : Bk μ) (hD : Bd μ) (hM : Mp μ) (l : Int) : QM 126 [(0, l)] n μ (Fq (f_ln l) (vl_pageOf l)) := by
  have hJl := hl
  have b6 := hB.2.2.2.2.2.1
  refine AC.of rfl ?_
  refine aw_aload_n (q := 1) mX7_pageOf dX7_pageOf_0 rfl rfl ?_
  refine aw_iconst (q := 2) mX7_pageOf dX7_pageOf_1 rfl rfl ?_
  refine aw_put (t := 0) (ji := 1) (q := 5) mX7_pageOf dX7_pageOf_2 rfl f7_123 rfl kd_32 rfl (Or.inl rfl) (Or.inl (by decide)) (fun μ_2 e_2 => ?_)
  have hl : Lay n μ_2 := by rw [e_2]; exact Lay.setF lf_32_1 hl
  refine aw_aload_n (q := 6) mX7_pageOf dX7_pageOf_5 rfl rfl ?_
  refine aw_iconst (q := 7) mX7_pageOf dX7_pageOf_6 rfl rfl ?_
  refine aw_put (t := 0) (ji := 0) (q := 10) mX7_pageOf dX7_pageOf_7 rfl f7_126 rfl kd_32 rfl (Or.inl rfl) (Or.inl (by decide)) (fun μ_7 e_7 => ?_)
  have hl : Lay n μ_7 := by rw [e_7]; exact Lay.setF lf_32_0 hl
  refine aw_aload_n (q := 11) mX7_pageOf dX7_pageOf_10 rfl rfl ?_
  refine aw_iload_n (q := 12) mX7_pageOf dX7_pageOf_11 rfl rfl ?_
  obtain ⟨s1, s2, s3, s4, s5, s6, s7⟩ := qm_start hJl hB hD hM e_2 e_7
  have hil := pX7_isLineB n μ_7 l s2
  rw [s6.1 7 (by decide) (by decide)] at hil
  refine aw_v1 (ci := 7) (q := 15) mX7_pageOf dX7_pageOf_12 rfl l7_151 k126_92 rfl kd_32 rfl rfl rfl (hil) (kint (fun y μ3 hy => ?_))
  obtain ⟨hm, hy⟩ := hy
  subst hm
  refine aw_if_ne (tgt := 24) (q := 18) mX7_pageOf dX7_pageOf_15 rfl (by decide) (fun c_15 => ?_) (fun c_15 => ?_)
  · refine aw_aload_n (q := 25) mX7_pageOf dX7_pageOf_24 rfl rfl ?_
    refine aw_v0 (ci := 7) (q := 28) mX7_pageOf dX7_pageOf_25 rfl l7_239 k126_124 rfl kd_32 rfl rfl rfl (pX7_lacks n μ3 s2 s3 s5) (kint (fun y' μ1 hy' => ?_))
    obtain ⟨o1, o2, o3, hy'⟩ := hy'
    have hO : Of Sw μ μ1 := s1.tr (o1.mono Sa_Sw)
    have hb : BE μ μ1 := hO.beW
    have hl := s2.ofW (o1.mono Sa_Sw)
    have hf : f_ln l μ1 = if μ1 32 22 = 0 then 6 else 0 := by unfold f_ln; rw [hb.1 7 (by decide) (by decide), if_pos (by omega)]
    refine aw_if_eq (tgt := 40) (q := 31) mX7_pageOf dX7_pageOf_28 rfl (by decide) (fun c_28 => ?_) (fun c_28 => ?_)
    · refine aw_aload_n (q := 41) mX7_pageOf dX7_pageOf_40 rfl rfl ?_
      refine aw_get (t := 2) (ji := 29) (q := 44) mX7_pageOf dX7_pageOf_41 rfl f7_75 rfl kd_32 rfl (ly_32_29 hl) ?_
      refine aw_iload_n (q := 45) mX7_pageOf dX7_pageOf_44 rfl rfl ?_
      refine aw_iald (q := 46) mX7_pageOf dX7_pageOf_45 rfl kd_50 (by omega) (by omega) rfl ?_
      refine aw_iret mX7_pageOf dX7_pageOf_46 ?_
      exact qm_end hO (Or.inl ⟨o2, o3⟩) hb o3 (Or.inr ⟨by rw [hf, if_neg (by omega)], rfl, rfl⟩) (Or.inr ⟨rfl, by rw [Sa_0 o1]; exact s7⟩)
    · refine aw_aload_n (q := 32) mX7_pageOf dX7_pageOf_31 rfl rfl ?_
      refine aw_bipush (q := 34) mX7_pageOf dX7_pageOf_32 rfl rfl ?_
      refine aw_v1 (ci := 7) (q := 37) mX7_pageOf dX7_pageOf_34 rfl l7_147 k126_89 rfl kd_32 rfl rfl rfl (pX7_refuse n μ1 6) (kset (fun μ4 h4 => ?_))
      refine aw_goto (q := 46) mX7_pageOf dX7_pageOf_37 (by decide) ?_
      refine aw_iret mX7_pageOf dX7_pageOf_46 ?_
      exact qm_end hO (Or.inl ⟨o2, o3⟩) hb o3 (Or.inl ⟨by rw [hf, if_pos (by omega)]; decide, rfl, by rw [hf, if_pos (by omega)]⟩) (Or.inl h4)
  · obtain ⟨m, hb, hMS⟩ := MS_ex hJl hB
    have hf : f_ln l m = 1 := by unfold f_ln; rw [hb.1 7 (by decide) (by decide), if_neg (by omega)]
    refine aw_aload_n (q := 19) mX7_pageOf dX7_pageOf_18 rfl rfl ?_
    refine aw_iconst (q := 20) mX7_pageOf dX7_pageOf_19 rfl rfl ?_
    refine aw_v1 (ci := 7) (q := 23) mX7_pageOf dX7_pageOf_20 rfl l7_147 k126_89 rfl kd_32 rfl rfl rfl (pX7_refuse n μ3 1) (kset (fun μ4 h4 => ?_))
    refine aw_iret mX7_pageOf dX7_pageOf_23 ?_
    exact qm_end s1 s5 hb hMS (Or.inl ⟨by rw [hf]; decide, rfl, by rw [hf]⟩) (Or.inl h4)
theorem qm_top {n : Nat} {μ : am_M} (hl : Lay n μ) (hB : Bk μ) (hD : Bd μ) (hM : Mp μ) (l : Int) : QM 127 [(0, l)] n μ (Fq (f_ln l) (vl_top l)) := by
  have hJl := hl
  have b6 := hB.2.2.2.2.2.1
  refine AC.of rfl ?_
  refine aw_aload_n (q := 1) mX7_top dX7_top_0 rfl rfl ?_
  refine aw_iconst (q := 2) mX7_top dX7_top_1 rfl rfl ?_
  refine aw_put (t := 0) (ji := 1) (q := 5) mX7_top dX7_top_2 rfl f7_123 rfl kd_32 rfl (Or.inl rfl) (Or.inl (by decide)) (fun μ_2 e_2 => ?_)
  have hl : Lay n μ_2 := by rw [e_2]; exact Lay.setF lf_32_1 hl
  refine aw_aload_n (q := 6) mX7_top dX7_top_5 rfl rfl ?_
  refine aw_iconst (q := 7) mX7_top dX7_top_6 rfl rfl ?_
  refine aw_put (t := 0) (ji := 0) (q := 10) mX7_top dX7_top_7 rfl f7_126 rfl kd_32 rfl (Or.inl rfl) (Or.inl (by decide)) (fun μ_7 e_7 => ?_)
  have hl : Lay n μ_7 := by rw [e_7]; exact Lay.setF lf_32_0 hl
  refine aw_aload_n (q := 11) mX7_top dX7_top_10 rfl rfl ?_
  refine aw_iload_n (q := 12) mX7_top dX7_top_11 rfl rfl ?_
  obtain ⟨s1, s2, s3, s4, s5, s6, s7⟩ := qm_start hJl hB hD hM e_2 e_7
  have hil := pX7_isLineB n μ_7 l s2
  rw [s6.1 7 (by decide) (by decide)] at hil
  refine aw_v1 (ci := 7) (q := 15) mX7_top dX7_top_12 rfl l7_151 k127_92 rfl kd_32 rfl rfl rfl (hil) (kint (fun y μ3 hy => ?_))
  obtain ⟨hm, hy⟩ := hy
  subst hm
  refine aw_if_ne (tgt := 24) (q := 18) mX7_top dX7_top_15 rfl (by decide) (fun c_15 => ?_) (fun c_15 => ?_)
  · refine aw_aload_n (q := 25) mX7_top dX7_top_24 rfl rfl ?_
    refine aw_v0 (ci := 7) (q := 28) mX7_top dX7_top_25 rfl l7_239 k127_124 rfl kd_32 rfl rfl rfl (pX7_lacks n μ3 s2 s3 s5) (kint (fun y' μ1 hy' => ?_))
    obtain ⟨o1, o2, o3, hy'⟩ := hy'
    have hO : Of Sw μ μ1 := s1.tr (o1.mono Sa_Sw)
    have hb : BE μ μ1 := hO.beW
    have hl := s2.ofW (o1.mono Sa_Sw)
    have hf : f_ln l μ1 = if μ1 32 22 = 0 then 6 else 0 := by unfold f_ln; rw [hb.1 7 (by decide) (by decide), if_pos (by omega)]
    refine aw_if_eq (tgt := 40) (q := 31) mX7_top dX7_top_28 rfl (by decide) (fun c_28 => ?_) (fun c_28 => ?_)
    · refine aw_aload_n (q := 41) mX7_top dX7_top_40 rfl rfl ?_
      refine aw_get (t := 2) (ji := 28) (q := 44) mX7_top dX7_top_41 rfl f7_72 rfl kd_32 rfl (ly_32_28 hl) ?_
      refine aw_iload_n (q := 45) mX7_top dX7_top_44 rfl rfl ?_
      refine aw_iald (q := 46) mX7_top dX7_top_45 rfl kd_49 (by omega) (by omega) rfl ?_
      refine aw_iret mX7_top dX7_top_46 ?_
      exact qm_end hO (Or.inl ⟨o2, o3⟩) hb o3 (Or.inr ⟨by rw [hf, if_neg (by omega)], rfl, rfl⟩) (Or.inr ⟨rfl, by rw [Sa_0 o1]; exact s7⟩)
    · refine aw_aload_n (q := 32) mX7_top dX7_top_31 rfl rfl ?_
      refine aw_bipush (q := 34) mX7_top dX7_top_32 rfl rfl ?_
      refine aw_v1 (ci := 7) (q := 37) mX7_top dX7_top_34 rfl l7_147 k127_89 rfl kd_32 rfl rfl rfl (pX7_refuse n μ1 6) (kset (fun μ4 h4 => ?_))
      refine aw_goto (q := 46) mX7_top dX7_top_37 (by decide) ?_
      refine aw_iret mX7_top dX7_top_46 ?_
      exact qm_end hO (Or.inl ⟨o2, o3⟩) hb o3 (Or.inl ⟨by rw [hf, if_pos (by omega)]; decide, rfl, by rw [hf, if_pos (by omega)]⟩) (Or.inl h4)
  · obtain ⟨m, hb, hMS⟩ := MS_ex hJl hB
    have hf : f_ln l m = 1 := by unfold f_ln; rw [hb.1 7 (by decide) (by decide), if_neg (by omega)]
    refine aw_aload_n (q := 19) mX7_top dX7_top_18 rfl rfl ?_
    refine aw_iconst (q := 20) mX7_top dX7_top_19 rfl rfl ?_
    refine aw_v1 (ci := 7) (q := 23) mX7_top dX7_top_20 rfl l7_147 k127_89 rfl kd_32 rfl rfl rfl (pX7_refuse n μ3 1) (kset (fun μ4 h4 => ?_))
    refine aw_iret mX7_top dX7_top_23 ?_
    exact qm_end s1 s5 hb hMS (Or.inl ⟨by rw [hf]; decide, rfl, by rw [hf]⟩) (Or.inl h4)
theorem pX7_asked (n : Nat) (μ : am_M) (k : Int) (hl : Lay n μ) (hB : Bk μ) (hM : Mp μ) : AC 128 [(2, 32), (0, k)] n μ (PI n (fun x μ' => Of Sa μ μ' ∧ Mp μ' ∧ 0 ≤ x ∧ ((x ≠ 0 ∧ ∃ m, BE μ m ∧ MS m ∧ x = f_nt k m) ∨ (x = 0 ∧ μ' 32 21 = 1 ∧ MS μ' ∧ f_nt k μ' = 0)))) := by
  have b7 := hB.2.2.2.2.2.2.1
  refine AC.of rfl ?_
  refine aw_aload_n (q := 1) mX7_asked dX7_asked_0 rfl rfl ?_
  refine aw_iload_n (q := 2) mX7_asked dX7_asked_1 rfl rfl ?_
  refine aw_v1 (ci := 7) (q := 5) mX7_asked dX7_asked_2 rfl l7_154 k128_93 rfl kd_32 rfl rfl rfl (pX7_isNote n μ k) (kint (fun y μ3 hy => ?_))
  obtain ⟨hm, hy⟩ := hy
  subst hm
  refine aw_if_ne (tgt := 10) (q := 8) mX7_asked dX7_asked_5 rfl (by decide) (fun c_5 => ?_) (fun c_5 => ?_)
  rotate_left
  · refine aw_iconst (q := 9) mX7_asked dX7_asked_8 rfl rfl ?_
    refine aw_iret mX7_asked dX7_asked_9 ?_
    obtain ⟨m, hb, hMS⟩ := MS_ex hl hB
    refine ⟨1, rfl, rfl, Of.rf, hM, by decide, Or.inl ⟨by decide, m, hb, hMS, ?_⟩⟩
    unfold f_nt
    rw [hb.1 8 (by decide) (by decide), if_neg (by omega)]
  have k0 : 0 ≤ k := by omega
  have k1 : k < μ3 32 8 := by omega
  have hsh := pX7_isShown n μ3 k hl k0 (by omega)
  unfold md_sh at hsh
  refine aw_aload_n (q := 11) mX7_asked dX7_asked_10 rfl rfl ?_
  refine aw_iload_n (q := 12) mX7_asked dX7_asked_11 rfl rfl ?_
  refine aw_v1 (ci := 7) (q := 15) mX7_asked dX7_asked_12 rfl l7_163 k128_107 rfl kd_32 rfl rfl rfl (hsh) (kint (fun y' μ4 hy' => ?_))
  obtain ⟨hm, hy'⟩ := hy'
  subst hm
  refine aw_if_ne (tgt := 20) (q := 18) mX7_asked dX7_asked_15 rfl (by decide) (fun c_15 => ?_) (fun c_15 => ?_)
  rotate_left
  · refine aw_iconst (q := 19) mX7_asked dX7_asked_18 rfl rfl ?_
    refine aw_iret mX7_asked dX7_asked_19 ?_
    obtain ⟨m, hb, hMS⟩ := MS_ex hl hB
    refine ⟨5, rfl, rfl, Of.rf, hM, by decide, Or.inl ⟨by decide, m, hb, hMS, ?_⟩⟩
    unfold f_nt
    rw [hb.1 8 (by decide) (by decide), hb.1 5 (by decide) (by decide), hb.2 38 k (by decide) (by decide), if_pos ⟨k0, k1⟩, if_neg (by omega)]
  have hs : am_bit (μ4 32 5) (μ4 38 k) = 1 := by omega
  refine aw_aload_n (q := 21) mX7_asked dX7_asked_20 rfl rfl ?_
  refine aw_v0 (ci := 7) (q := 24) mX7_asked dX7_asked_21 rfl l7_239 k128_124 rfl kd_32 rfl rfl rfl (pX7_lacks n μ4 hl hB hM) (kint (fun y2 μ1 hy2 => ?_))
  obtain ⟨o1, o2, o3, hy2⟩ := hy2
  have hb : BE μ4 μ1 := (o1.mono Sa_Sw).beW
  have hfn : f_nt k μ1 = if μ1 32 22 = 0 then 6 else 0 := by
    unfold f_nt
    rw [hb.1 8 (by decide) (by decide), hb.1 5 (by decide) (by decide), hb.2 38 k (by decide) (by decide), if_pos ⟨k0, k1⟩, if_pos hs]
  refine aw_if_eq (tgt := 32) (q := 27) mX7_asked dX7_asked_24 rfl (by decide) (fun c_24 => ?_) (fun c_24 => ?_)
  · refine aw_iconst (q := 33) mX7_asked dX7_asked_32 rfl rfl ?_
    refine aw_iret mX7_asked dX7_asked_33 ?_
    exact ⟨0, rfl, rfl, o1, Or.inl ⟨o2, o3⟩, by decide, Or.inr ⟨rfl, o2, o3, by rw [hfn, if_neg (by omega)]⟩⟩
  · refine aw_bipush (q := 29) mX7_asked dX7_asked_27 rfl rfl ?_
    refine aw_goto (q := 33) mX7_asked dX7_asked_29 (by decide) ?_
    refine aw_iret mX7_asked dX7_asked_33 ?_
    exact ⟨6, rfl, rfl, o1, Or.inl ⟨o2, o3⟩, by decide, Or.inl ⟨by decide, μ1, hb, o3, by rw [hfn, if_pos (by omega)]⟩⟩
theorem qm_side {n : Nat} {μ : am_M} (hl : Lay n μ) (hB : Bk μ) (hD : Bd μ) (hM : Mp μ) (k : Int) : QM 129 [(0, k)] n μ (Fq (f_nt k) (vl_side k)) := by
  have b7 := hB.2.2.2.2.2.2.1
  have hO0 : ∀ μa, μa = am_set μ 32 1 0 → Of Sst μ μa := fun μa h => by rw [h]; exact Of.rf.set (Or.inr ⟨rfl, Or.inr rfl⟩)
  refine AC.of rfl ?_
  refine aw_aload_n (q := 1) mX7_side dX7_side_0 rfl rfl ?_
  refine aw_iconst (q := 2) mX7_side dX7_side_1 rfl rfl ?_
  refine aw_put (t := 0) (ji := 1) (q := 5) mX7_side dX7_side_2 rfl f7_123 rfl kd_32 rfl (Or.inl rfl) (Or.inl (by decide)) (fun μ_2 e_2 => ?_)
  have hl : Lay n μ_2 := by rw [e_2]; exact Lay.setF lf_32_1 hl
  refine aw_aload_n (q := 6) mX7_side dX7_side_5 rfl rfl ?_
  refine aw_aload_n (q := 7) mX7_side dX7_side_6 rfl rfl ?_
  refine aw_iload_n (q := 8) mX7_side dX7_side_7 rfl rfl ?_
  have hO2 := hO0 μ_2 e_2
  have hOw : Of Sw μ μ_2 := by rw [e_2]; exact Of.rf.set (by unfold Sw; omega)
  have hM2 : Mp μ_2 := hM.keep (Sst.be hO2) (fun j _ _ => hO2 32 j (by unfold Sst; omega)) (fun a j _ _ => hO2 a j (by unfold Sst; omega))
  refine aw_v1 (ci := 7) (q := 11) mX7_side dX7_side_8 rfl l7_242 k129_128 rfl kd_32 rfl rfl rfl (pX7_asked n μ_2 k hl (hB.tr (Sst.be hO2)) hM2) (kint (fun y μ1 hy => ?_))
  obtain ⟨o1, o2, o3, hy⟩ := hy
  have hO : Of Sw μ μ1 := hOw.tr (o1.mono Sa_Sw)
  have hl := hl.ofW (o1.mono Sa_Sw)
  refine aw_put (t := 0) (ji := 0) (q := 14) mX7_side dX7_side_11 rfl f7_126 rfl kd_32 rfl (Or.inl rfl) (Or.inl (by decide)) (fun μ_11 e_11 => ?_)
  have hl : Lay n μ_11 := by rw [e_11]; exact Lay.setF lf_32_0 hl
  refine aw_aload_n (q := 15) mX7_side dX7_side_14 rfl rfl ?_
  refine aw_get (t := 0) (ji := 0) (q := 18) mX7_side dX7_side_15 rfl f7_126 rfl kd_32 rfl (rd_ss e_11) ?_
  refine aw_if_le (tgt := 25) (q := 21) mX7_side dX7_side_18 rfl (by decide) (fun c_18 => ?_) (fun c_18 => ?_)
  · rcases hy with ⟨h0, -⟩ | ⟨h0, h21, hMS, hf⟩
    · exact absurd c_18 (by omega)
    have hb : BE μ μ1 := hO.beW
    have hkk := f_nt0 hMS hf
    have e8 : μ1 32 8 = μ 32 8 := hb.1 8 (by decide) (by decide)
    refine aw_aload_n (q := 26) mX7_side dX7_side_25 rfl rfl ?_
    refine aw_get (t := 2) (ji := 30) (q := 29) mX7_side dX7_side_26 rfl f7_78 rfl kd_32 rfl (ly_32_30 hl) ?_
    refine aw_iload_n (q := 30) mX7_side dX7_side_29 rfl rfl ?_
    refine aw_iald (q := 31) mX7_side dX7_side_30 rfl kd_51 (by omega) (by omega) (rd_sn e_11 (Or.inl (by decide)) rfl) ?_
    refine aw_iret mX7_side dX7_side_31 ?_
    exact qm_end hO o2 hb hMS (Or.inr ⟨hf, rfl, rfl⟩) (Or.inl (by rw [e_11, h0]))
  · rcases hy with ⟨h0, m, hb, hMS, hf⟩ | ⟨h0, -⟩
    · refine aw_iconst (q := 22) mX7_side dX7_side_21 rfl rfl ?_
      refine aw_goto (q := 31) mX7_side dX7_side_22 (by decide) ?_
      refine aw_iret mX7_side dX7_side_31 ?_
      exact qm_end hO o2 (((Sst.be hO2).trans hb)) hMS (Or.inl ⟨by rw [← hf]; exact h0, rfl, hf⟩) (Or.inl e_11)
    · exact absurd c_18 (by omega)
theorem qm_place {n : Nat} {μ : am_M} (hl : Lay n μ) (hB : Bk μ) (hD : Bd μ) (hM : Mp μ) (k : Int) : QM 130 [(0, k)] n μ (Fq (f_nt k) (vl_place k)) := by
  have b7 := hB.2.2.2.2.2.2.1
  have hO0 : ∀ μa, μa = am_set μ 32 1 0 → Of Sst μ μa := fun μa h => by rw [h]; exact Of.rf.set (Or.inr ⟨rfl, Or.inr rfl⟩)
  refine AC.of rfl ?_
  refine aw_aload_n (q := 1) mX7_place dX7_place_0 rfl rfl ?_
  refine aw_iconst (q := 2) mX7_place dX7_place_1 rfl rfl ?_
  refine aw_put (t := 0) (ji := 1) (q := 5) mX7_place dX7_place_2 rfl f7_123 rfl kd_32 rfl (Or.inl rfl) (Or.inl (by decide)) (fun μ_2 e_2 => ?_)
  have hl : Lay n μ_2 := by rw [e_2]; exact Lay.setF lf_32_1 hl
  refine aw_aload_n (q := 6) mX7_place dX7_place_5 rfl rfl ?_
  refine aw_aload_n (q := 7) mX7_place dX7_place_6 rfl rfl ?_
  refine aw_iload_n (q := 8) mX7_place dX7_place_7 rfl rfl ?_
  have hO2 := hO0 μ_2 e_2
  have hOw : Of Sw μ μ_2 := by rw [e_2]; exact Of.rf.set (by unfold Sw; omega)
  have hM2 : Mp μ_2 := hM.keep (Sst.be hO2) (fun j _ _ => hO2 32 j (by unfold Sst; omega)) (fun a j _ _ => hO2 a j (by unfold Sst; omega))
  refine aw_v1 (ci := 7) (q := 11) mX7_place dX7_place_8 rfl l7_242 k130_128 rfl kd_32 rfl rfl rfl (pX7_asked n μ_2 k hl (hB.tr (Sst.be hO2)) hM2) (kint (fun y μ1 hy => ?_))
  obtain ⟨o1, o2, o3, hy⟩ := hy
  have hO : Of Sw μ μ1 := hOw.tr (o1.mono Sa_Sw)
  have hl := hl.ofW (o1.mono Sa_Sw)
  refine aw_put (t := 0) (ji := 0) (q := 14) mX7_place dX7_place_11 rfl f7_126 rfl kd_32 rfl (Or.inl rfl) (Or.inl (by decide)) (fun μ_11 e_11 => ?_)
  have hl : Lay n μ_11 := by rw [e_11]; exact Lay.setF lf_32_0 hl
  refine aw_aload_n (q := 15) mX7_place dX7_place_14 rfl rfl ?_
  refine aw_get (t := 0) (ji := 0) (q := 18) mX7_place dX7_place_15 rfl f7_126 rfl kd_32 rfl (rd_ss e_11) ?_
  refine aw_if_le (tgt := 25) (q := 21) mX7_place dX7_place_18 rfl (by decide) (fun c_18 => ?_) (fun c_18 => ?_)
  · rcases hy with ⟨h0, -⟩ | ⟨h0, h21, hMS, hf⟩
    · exact absurd c_18 (by omega)
    have hb : BE μ μ1 := hO.beW
    have hkk := f_nt0 hMS hf
    have e8 : μ1 32 8 = μ 32 8 := hb.1 8 (by decide) (by decide)
    refine aw_aload_n (q := 26) mX7_place dX7_place_25 rfl rfl ?_
    refine aw_get (t := 2) (ji := 31) (q := 29) mX7_place dX7_place_26 rfl f7_81 rfl kd_32 rfl (ly_32_31 hl) ?_
    refine aw_iload_n (q := 30) mX7_place dX7_place_29 rfl rfl ?_
    refine aw_iald (q := 31) mX7_place dX7_place_30 rfl kd_52 (by omega) (by omega) (rd_sn e_11 (Or.inl (by decide)) rfl) ?_
    refine aw_iret mX7_place dX7_place_31 ?_
    exact qm_end hO o2 hb hMS (Or.inr ⟨hf, rfl, rfl⟩) (Or.inl (by rw [e_11, h0]))
  · rcases hy with ⟨h0, m, hb, hMS, hf⟩ | ⟨h0, -⟩
    · refine aw_iconst (q := 22) mX7_place dX7_place_21 rfl rfl ?_
      refine aw_goto (q := 31) mX7_place dX7_place_22 (by decide) ?_
      refine aw_iret mX7_place dX7_place_31 ?_
      exact qm_end hO o2 (((Sst.be hO2).trans hb)) hMS (Or.inl ⟨by rw [← hf]; exact h0, rfl, hf⟩) (Or.inl e_11)
    · exact absurd c_18 (by omega)
theorem qm_rest {n : Nat} {μ : am_M} (hl : Lay n μ) (hB : Bk μ) (hD : Bd μ) (hM : Mp μ) (k : Int) : QM 131 [(0, k)] n μ (Fq (f_nt k) (vl_rest k)) := by
  have b7 := hB.2.2.2.2.2.2.1
  have hO0 : ∀ μa, μa = am_set μ 32 1 0 → Of Sst μ μa := fun μa h => by rw [h]; exact Of.rf.set (Or.inr ⟨rfl, Or.inr rfl⟩)
  refine AC.of rfl ?_
  refine aw_aload_n (q := 1) mX7_rest dX7_rest_0 rfl rfl ?_
  refine aw_iconst (q := 2) mX7_rest dX7_rest_1 rfl rfl ?_
  refine aw_put (t := 0) (ji := 1) (q := 5) mX7_rest dX7_rest_2 rfl f7_123 rfl kd_32 rfl (Or.inl rfl) (Or.inl (by decide)) (fun μ_2 e_2 => ?_)
  have hl : Lay n μ_2 := by rw [e_2]; exact Lay.setF lf_32_1 hl
  refine aw_aload_n (q := 6) mX7_rest dX7_rest_5 rfl rfl ?_
  refine aw_aload_n (q := 7) mX7_rest dX7_rest_6 rfl rfl ?_
  refine aw_iload_n (q := 8) mX7_rest dX7_rest_7 rfl rfl ?_
  have hO2 := hO0 μ_2 e_2
  have hOw : Of Sw μ μ_2 := by rw [e_2]; exact Of.rf.set (by unfold Sw; omega)
  have hM2 : Mp μ_2 := hM.keep (Sst.be hO2) (fun j _ _ => hO2 32 j (by unfold Sst; omega)) (fun a j _ _ => hO2 a j (by unfold Sst; omega))
  refine aw_v1 (ci := 7) (q := 11) mX7_rest dX7_rest_8 rfl l7_242 k131_128 rfl kd_32 rfl rfl rfl (pX7_asked n μ_2 k hl (hB.tr (Sst.be hO2)) hM2) (kint (fun y μ1 hy => ?_))
  obtain ⟨o1, o2, o3, hy⟩ := hy
  have hO : Of Sw μ μ1 := hOw.tr (o1.mono Sa_Sw)
  have hl := hl.ofW (o1.mono Sa_Sw)
  refine aw_put (t := 0) (ji := 0) (q := 14) mX7_rest dX7_rest_11 rfl f7_126 rfl kd_32 rfl (Or.inl rfl) (Or.inl (by decide)) (fun μ_11 e_11 => ?_)
  have hl : Lay n μ_11 := by rw [e_11]; exact Lay.setF lf_32_0 hl
  refine aw_aload_n (q := 15) mX7_rest dX7_rest_14 rfl rfl ?_
  refine aw_get (t := 0) (ji := 0) (q := 18) mX7_rest dX7_rest_15 rfl f7_126 rfl kd_32 rfl (rd_ss e_11) ?_
  refine aw_if_le (tgt := 25) (q := 21) mX7_rest dX7_rest_18 rfl (by decide) (fun c_18 => ?_) (fun c_18 => ?_)
  · rcases hy with ⟨h0, -⟩ | ⟨h0, h21, hMS, hf⟩
    · exact absurd c_18 (by omega)
    have hb : BE μ μ1 := hO.beW
    have hkk := f_nt0 hMS hf
    have e8 : μ1 32 8 = μ 32 8 := hb.1 8 (by decide) (by decide)
    refine aw_aload_n (q := 26) mX7_rest dX7_rest_25 rfl rfl ?_
    refine aw_get (t := 2) (ji := 33) (q := 29) mX7_rest dX7_rest_26 rfl f7_87 rfl kd_32 rfl (ly_32_33 hl) ?_
    refine aw_iload_n (q := 30) mX7_rest dX7_rest_29 rfl rfl ?_
    refine aw_iald (q := 31) mX7_rest dX7_rest_30 rfl kd_54 (by omega) (by omega) (rd_sn e_11 (Or.inl (by decide)) rfl) ?_
    refine aw_iret mX7_rest dX7_rest_31 ?_
    exact qm_end hO o2 hb hMS (Or.inr ⟨hf, rfl, rfl⟩) (Or.inl (by rw [e_11, h0]))
  · rcases hy with ⟨h0, m, hb, hMS, hf⟩ | ⟨h0, -⟩
    · refine aw_iconst (q := 22) mX7_rest dX7_rest_21 rfl rfl ?_
      refine aw_goto (q := 31) mX7_rest dX7_rest_22 (by decide) ?_
      refine aw_iret mX7_rest dX7_rest_31 ?_
      exact qm_end hO o2 (((Sst.be hO2).trans hb)) hMS (Or.inl ⟨by rw [← hf]; exact h0, rfl, hf⟩) (Or.inl e_11)
    · exact absurd c_18 (by omega)
/-- what a page costs -/
theorem PgR_cost {m : am_M} {p : Int} (hB : Bk m) (hR : PgR m p) (h47 : 0 ≤ m 47 (2 * p) ∧ 0 ≤ m 47 (2 * p + 1)) : 0 ≤ m 48 p ∧ m 48 p ≤ 400000 := by
  have hR0 := hR
  obtain ⟨-, h2, -, -, -, bits, c0, c1, xs0, xs1, w1, w2, -⟩ := hR
  obtain ⟨H, hHe⟩ : ∃ H, H = md_hr m (m 45 p) (m 46 p).toNat := ⟨_, rfl⟩
  rw [← hHe] at w1
  have hvv : ∀ z ∈ H, (0 ≤ z ∧ z < m 32 8) ∧ 0 ≤ m 49 (m 34 z) ∧ m 49 (m 34 z) ≤ 400 := fun z hz => by
    rw [hHe] at hz
    have h1 := md_hr_mem hz
    have h3 := PgR_ls hB hR0 (l := m 34 z) (by omega) (by omega)
    omega
  have hlen : H.length ≤ 24 := by rw [hHe]; exact Nat.le_trans md_hr_le (by have := hB.2.2.2.2.2.2.1; omega)
  obtain ⟨-, -, g3⟩ := w1.fin w2
  have b0 := md_sc_bd hB (rest := m 47 (2 * p)) (rw := md_rw m 0 bits H) (fun k hk => (hvv k (md_ro_mem hk)).1) (fun k hk => (hvv k (md_ro_mem hk)).2) (Nat.le_trans md_ro_le hlen) h47.1
  have b1 := md_sc_bd hB (rest := m 47 (2 * p + 1)) (rw := md_rw m 1 bits H) (fun k hk => (hvv k (md_ro_mem hk)).1) (fun k hk => (hvv k (md_ro_mem hk)).2) (Nat.le_trans md_ro_le hlen) h47.2
  rw [md_dc_eq] at g3
  by_cases hc : md_sc m (m 47 (2 * p)) (md_rw m 0 bits H) < rw_NV ∧ md_sc m (m 47 (2 * p + 1)) (md_rw m 1 bits H) < rw_NV
  · rw [if_pos hc] at g3
    have c0 := b0 hc.1
    have c1 := b1 hc.2
    omega
  · rw [if_neg hc] at g3; omega
theorem qm_cost {n : Nat} {μ : am_M} (hl : Lay n μ) (hB : Bk μ) (hD : Bd μ) (hM : Mp μ) (p : Int) : QM 137 [(0, p)] n μ (Fq (f_pg p) (vl_cost p)) := by
  have hJl := hl
  refine AC.of rfl ?_
  refine aw_aload_n (q := 1) mX7_cost dX7_cost_0 rfl rfl ?_
  refine aw_iconst (q := 2) mX7_cost dX7_cost_1 rfl rfl ?_
  refine aw_put (t := 0) (ji := 1) (q := 5) mX7_cost dX7_cost_2 rfl f7_123 rfl kd_32 rfl (Or.inl rfl) (Or.inl (by decide)) (fun μ_2 e_2 => ?_)
  have hl : Lay n μ_2 := by rw [e_2]; exact Lay.setF lf_32_1 hl
  refine aw_aload_n (q := 6) mX7_cost dX7_cost_5 rfl rfl ?_
  refine aw_iconst (q := 7) mX7_cost dX7_cost_6 rfl rfl ?_
  refine aw_put (t := 0) (ji := 0) (q := 10) mX7_cost dX7_cost_7 rfl f7_126 rfl kd_32 rfl (Or.inl rfl) (Or.inl (by decide)) (fun μ_7 e_7 => ?_)
  have hl : Lay n μ_7 := by rw [e_7]; exact Lay.setF lf_32_0 hl
  refine aw_aload_n (q := 11) mX7_cost dX7_cost_10 rfl rfl ?_
  obtain ⟨s1, s2, s3, s4, s5, s6, s7⟩ := qm_start hJl hB hD hM e_2 e_7
  refine aw_v0 (ci := 7) (q := 14) mX7_cost dX7_cost_11 rfl l7_239 k137_124 rfl kd_32 rfl rfl rfl (pX7_lacks n μ_7 s2 s3 s5) (kint (fun y μ1 hy => ?_))
  obtain ⟨o1, o2, o3, hy⟩ := hy
  have hO : Of Sw μ μ1 := s1.tr (o1.mono Sa_Sw)
  have hb : BE μ μ1 := hO.beW
  have hB1 := hB.tr hb
  have hl := s2.ofW (o1.mono Sa_Sw)
  have N1 : ∀ L, μ1 32 22 = 1 → ¬ (0 ≤ p ∧ p < μ1 32 23) → L = [(2, 32), (0, p)] → AW none 137 36 L [] n μ1 (fun r n1 μf => ∃ x, r = some (0, x) ∧ n1 = n ∧ Of Sw μ μf ∧ Mp μf ∧ ∃ m, BE μ m ∧ MS m ∧ Fq (f_pg p) (vl_cost p) m x (μf 32 0)) := by
    intro L h22 hn hL
    subst hL
    refine aw_aload_n (q := 37) mX7_cost dX7_cost_36 rfl rfl ?_
    refine aw_iconst (q := 38) mX7_cost dX7_cost_37 rfl rfl ?_
    refine aw_v1 (ci := 7) (q := 41) mX7_cost dX7_cost_38 rfl l7_147 k137_89 rfl kd_32 rfl rfl rfl (pX7_refuse n μ1 1) (kset (fun μ4 h4 => ?_))
    refine aw_goto (q := 51) mX7_cost dX7_cost_41 (by decide) ?_
    refine aw_iret mX7_cost dX7_cost_51 ?_
    exact qm_end hO (Or.inl ⟨o2, o3⟩) hb o3 (Or.inl ⟨by unfold f_pg; rw [if_neg (by omega), if_neg hn]; decide, rfl, by unfold f_pg; rw [if_neg (by omega), if_neg hn]⟩) (Or.inl h4)
  refine aw_if_eq (tgt := 24) (q := 17) mX7_cost dX7_cost_14 rfl (by decide) (fun c_14 => ?_) (fun c_14 => ?_)
  · refine aw_iload_n (q := 25) mX7_cost dX7_cost_24 rfl rfl ?_
    refine aw_if_lt (tgt := 36) (q := 28) mX7_cost dX7_cost_25 rfl (by decide) (fun c_25 => ?_) (fun c_25 => ?_)
    · exact N1 _ (by omega) (by omega) rfl
    · refine aw_iload_n (q := 29) mX7_cost dX7_cost_28 rfl rfl ?_
      refine aw_aload_n (q := 30) mX7_cost dX7_cost_29 rfl rfl ?_
      refine aw_get (t := 0) (ji := 23) (q := 33) mX7_cost dX7_cost_30 rfl f7_226 rfl kd_32 rfl rfl ?_
      refine aw_icmp_lt (tgt := 44) (q := 36) mX7_cost dX7_cost_33 rfl (by decide) (fun c_33 => ?_) (fun c_33 => ?_)
      · have hQ := o3.pages hB1
        have hR := o3.1.2.2.1 p (by omega) c_33
        obtain ⟨k1, k2, -⟩ := o3.1.2.2.2 p (by omega) (by omega)
        have hcb := PgR_cost hB1 hR ⟨k1.1, k2.1⟩
        refine aw_aload_n (q := 45) mX7_cost dX7_cost_44 rfl rfl ?_
        refine aw_get (t := 2) (ji := 27) (q := 48) mX7_cost dX7_cost_45 rfl f7_68 rfl kd_32 rfl (ly_32_27 hl) ?_
        refine aw_iload_n (q := 49) mX7_cost dX7_cost_48 rfl rfl ?_
        refine aw_lald (q := 50) mX7_cost dX7_cost_49 rfl kd_48 (by omega) (by omega) rfl ?_
        refine aw_l2i (q := 51) mX7_cost dX7_cost_50 rfl (by omega) (by omega) ?_
        refine aw_iret mX7_cost dX7_cost_51 ?_
        exact qm_end hO (Or.inl ⟨o2, o3⟩) hb o3 (Or.inr ⟨by unfold f_pg; rw [if_neg (by omega), if_pos (by omega)], rfl, rfl⟩) (Or.inr ⟨rfl, by rw [Sa_0 o1]; exact s7⟩)
      · exact N1 _ (by omega) (by omega) rfl
  · refine aw_aload_n (q := 18) mX7_cost dX7_cost_17 rfl rfl ?_
    refine aw_bipush (q := 20) mX7_cost dX7_cost_18 rfl rfl ?_
    refine aw_v1 (ci := 7) (q := 23) mX7_cost dX7_cost_20 rfl l7_147 k137_89 rfl kd_32 rfl rfl rfl (pX7_refuse n μ1 6) (kset (fun μ4 h4 => ?_))
    refine aw_iret mX7_cost dX7_cost_23 ?_
    exact qm_end hO (Or.inl ⟨o2, o3⟩) hb o3 (Or.inl ⟨by unfold f_pg; rw [if_pos (by omega)]; decide, rfl, by unfold f_pg; rw [if_pos (by omega)]⟩) (Or.inl h4)

/-! the class: beginBook, beginPage, carries, takeLines -/
theorem pX5_carries (n : Nat) (μ : am_M) (hl : Lay n μ) : AC 43 [(2, 17)] n μ (PB (0 < μ 18 11 ∨ 0 < μ 25 11) n μ) := by
  refine AC.of rfl ?_
  refine aw_aload_n (q := 1) mX5_carries dX5_carries_0 rfl rfl ?_
  refine aw_get (t := 2) (ji := 0) (q := 4) mX5_carries dX5_carries_1 rfl f5_20 rfl kd_17 rfl (ly_17_0 hl) ?_
  refine aw_get (t := 0) (ji := 11) (q := 7) mX5_carries dX5_carries_4 rfl f5_27 rfl kd_18 rfl rfl ?_
  refine aw_if_gt (tgt := 20) (q := 10) mX5_carries dX5_carries_7 rfl (by decide) (fun c_7 => ?_) (fun c_7 => ?_)
  · refine aw_iconst (q := 21) mX5_carries dX5_carries_20 rfl rfl ?_
    refine aw_goto (q := 25) mX5_carries dX5_carries_21 (by decide) ?_
    refine aw_zret mX5_carries dX5_carries_25 (by first | exact Or.inl rfl | exact Or.inr rfl | assumption | omega) ?_
    exact ⟨1, rfl, rfl, rfl, Or.inl ⟨rfl, Or.inl (by omega)⟩⟩
  · refine aw_aload_n (q := 11) mX5_carries dX5_carries_10 rfl rfl ?_
    refine aw_get (t := 2) (ji := 1) (q := 14) mX5_carries dX5_carries_11 rfl f5_24 rfl kd_17 rfl (ly_17_1 hl) ?_
    refine aw_get (t := 0) (ji := 11) (q := 17) mX5_carries dX5_carries_14 rfl f5_27 rfl kd_25 rfl rfl ?_
    refine aw_if_le (tgt := 24) (q := 20) mX5_carries dX5_carries_17 rfl (by decide) (fun c_17 => ?_) (fun c_17 => ?_)
    · refine aw_iconst (q := 25) mX5_carries dX5_carries_24 rfl rfl ?_
      refine aw_zret mX5_carries dX5_carries_25 (by first | exact Or.inl rfl | exact Or.inr rfl | assumption | omega) ?_
      exact ⟨0, rfl, rfl, rfl, Or.inr ⟨rfl, by omega⟩⟩
    · refine aw_iconst (q := 21) mX5_carries dX5_carries_20 rfl rfl ?_
      refine aw_goto (q := 25) mX5_carries dX5_carries_21 (by decide) ?_
      refine aw_zret mX5_carries dX5_carries_25 (by first | exact Or.inl rfl | exact Or.inr rfl | assumption | omega) ?_
      exact ⟨1, rfl, rfl, rfl, Or.inl ⟨rfl, Or.inr (by omega)⟩⟩
def Sbb (a j : Int) : Prop := ((a = 18 ∨ a = 25) ∧ j = 11) ∨ (a = 17 ∧ j = 3)
theorem Sbb_Sk : ∀ a j, Sbb a j → Sk a j := fun a j h => by unfold Sbb at h; unfold Sk; omega
theorem pX5_beginBook (n : Nat) (μ : am_M) (hl : Lay n μ) : AC 41 [(2, 17)] n μ (PV n (fun μ' => Of Sbb μ μ' ∧ μ' 18 11 = 0 ∧ μ' 25 11 = 0 ∧ μ' 17 3 = 0)) := by
  refine AC.of rfl ?_
  refine aw_aload_n (q := 1) mX5_beginBook dX5_beginBook_0 rfl rfl ?_
  refine aw_get (t := 2) (ji := 0) (q := 4) mX5_beginBook dX5_beginBook_1 rfl f5_20 rfl kd_17 rfl (ly_17_0 hl) ?_
  refine aw_iconst (q := 5) mX5_beginBook dX5_beginBook_4 rfl rfl ?_
  refine aw_put (t := 0) (ji := 11) (q := 8) mX5_beginBook dX5_beginBook_5 rfl f5_27 rfl kd_18 rfl (Or.inl rfl) (Or.inl (by decide)) (fun μ_5 e_5 => ?_)
  have hl : Lay n μ_5 := by rw [e_5]; exact Lay.setF lf_18_11 hl
  refine aw_aload_n (q := 9) mX5_beginBook dX5_beginBook_8 rfl rfl ?_
  refine aw_get (t := 2) (ji := 1) (q := 12) mX5_beginBook dX5_beginBook_9 rfl f5_24 rfl kd_17 rfl (ly_17_1 hl) ?_
  refine aw_iconst (q := 13) mX5_beginBook dX5_beginBook_12 rfl rfl ?_
  refine aw_put (t := 0) (ji := 11) (q := 16) mX5_beginBook dX5_beginBook_13 rfl f5_27 rfl kd_25 rfl (Or.inl rfl) (Or.inl (by decide)) (fun μ_13 e_13 => ?_)
  have hl : Lay n μ_13 := by rw [e_13]; exact Lay.setF lf_25_11 hl
  refine aw_aload_n (q := 17) mX5_beginBook dX5_beginBook_16 rfl rfl ?_
  refine aw_iconst (q := 18) mX5_beginBook dX5_beginBook_17 rfl rfl ?_
  refine aw_put (t := 0) (ji := 3) (q := 21) mX5_beginBook dX5_beginBook_18 rfl f5_31 rfl kd_17 rfl (Or.inl rfl) (Or.inl (by decide)) (fun μ_18 e_18 => ?_)
  have hl : Lay n μ_18 := by rw [e_18]; exact Lay.setF lf_17_3 hl
  refine aw_vret mX5_beginBook dX5_beginBook_21 ?_
  refine ⟨rfl, rfl, ?_, ?_, ?_, ?_⟩
  · rw [e_18, e_13, e_5]; exact ((Of.rf.set (by unfold Sbb; omega)).set (by unfold Sbb; omega)).set (by unfold Sbb; omega)
  · rw [e_18, am_sn (Or.inl (by decide)), e_13, am_sn (Or.inl (by decide)), e_5, am_ss]
  · rw [e_18, am_sn (Or.inl (by decide)), e_13, am_ss]
  · rw [e_18, am_ss]
def Sbp (a j : Int) : Prop := a = 17 ∧ (j = 2 ∨ j = 5 ∨ j = 6)
theorem Sbp_Sk : ∀ a j, Sbp a j → Sk a j := fun a j h => by unfold Sbp at h; unfold Sk; omega
theorem pX5_beginPage (n : Nat) (μ : am_M) (hl : Lay n μ) : AC 42 [(2, 17)] n μ (PV n (fun μ' => Of Sbp μ μ' ∧ μ' 17 2 = μ 17 3 ∧ μ' 17 5 = 0 ∧ μ' 17 6 = 0)) := by
  refine AC.of rfl ?_
  refine aw_aload_n (q := 1) mX5_beginPage dX5_beginPage_0 rfl rfl ?_
  refine aw_aload_n (q := 2) mX5_beginPage dX5_beginPage_1 rfl rfl ?_
  refine aw_get (t := 0) (ji := 3) (q := 5) mX5_beginPage dX5_beginPage_2 rfl f5_31 rfl kd_17 rfl rfl ?_
  refine aw_put (t := 0) (ji := 2) (q := 8) mX5_beginPage dX5_beginPage_5 rfl f5_34 rfl kd_17 rfl (Or.inl rfl) (Or.inl (by decide)) (fun μ_5 e_5 => ?_)
  have hl : Lay n μ_5 := by rw [e_5]; exact Lay.setF lf_17_2 hl
  refine aw_aload_n (q := 9) mX5_beginPage dX5_beginPage_8 rfl rfl ?_
  refine aw_iconst (q := 10) mX5_beginPage dX5_beginPage_9 rfl rfl ?_
  refine aw_put (t := 0) (ji := 5) (q := 13) mX5_beginPage dX5_beginPage_10 rfl f5_37 rfl kd_17 rfl (Or.inl rfl) (Or.inl (by decide)) (fun μ_10 e_10 => ?_)
  have hl : Lay n μ_10 := by rw [e_10]; exact Lay.setF lf_17_5 hl
  refine aw_aload_n (q := 14) mX5_beginPage dX5_beginPage_13 rfl rfl ?_
  refine aw_iconst (q := 15) mX5_beginPage dX5_beginPage_14 rfl rfl ?_
  refine aw_put (t := 0) (ji := 6) (q := 18) mX5_beginPage dX5_beginPage_15 rfl f5_40 rfl kd_17 rfl (Or.inl rfl) (Or.inl (by decide)) (fun μ_15 e_15 => ?_)
  have hl : Lay n μ_15 := by rw [e_15]; exact Lay.setF lf_17_6 hl
  refine aw_vret mX5_beginPage dX5_beginPage_18 ?_
  refine ⟨rfl, rfl, ?_, ?_, ?_, ?_⟩
  · rw [e_15, e_10, e_5]; exact ((Of.rf.set (by unfold Sbp; omega)).set (by unfold Sbp; omega)).set (by unfold Sbp; omega)
  · rw [e_15, am_sn (Or.inr (by decide)), e_10, am_sn (Or.inr (by decide)), e_5, am_ss]
  · rw [e_15, am_sn (Or.inr (by decide)), e_10, am_ss]
  · rw [e_15, am_ss]
theorem md_hr_cons {μ : am_M} {l : Int} {k : Nat} : md_hr μ l (k + 1) = md_nt μ l (μ 32 8).toNat ++ md_hr μ (l + 1) k := by
  rw [show k + 1 = 1 + k by omega, md_hr_app]
  show ([] ++ md_nt μ (l + ((0 : Nat) : Int)) (μ 32 8).toNat) ++ md_hr μ (l + ((1 : Nat) : Int)) k = _
  rw [show l + ((0 : Nat) : Int) = l by omega, show l + ((1 : Nat) : Int) = l + 1 by omega]
  rfl
theorem md_held_iff {μ : am_M} {fr a b : Int} {m : Nat} : md_held μ fr (m : Int) a b ↔ (md_ls μ fr m ≤ μ 32 2 ∧ md_ei μ (md_hr μ fr m) ≤ 6 ∧ ∃ d, 0 ≤ d ∧ d < am_shl (md_ei μ (md_hr μ fr m)) ∧ dl_can μ a b (md_hr μ fr m) d) := by
  unfold md_held
  rw [show ((m : Int)).toNat = m by omega]
  exact Iff.rfl
theorem pX1_takeLines (n : Nat) (μ : am_M) (fr a b : Int) (hl0 : Lay n μ) (hB : Bk μ) (hC : Cb n μ) (hf : 0 ≤ fr) (hfl : fr ≤ μ 32 7) (hP : Ph n μ (md_hr μ 0 fr.toNat) [] (md_hr μ fr (μ 32 7 - fr).toNat)) (ha : μ 18 11 = a ∧ 0 ≤ a ∧ a ≤ 380) (hb : μ 25 11 = b ∧ 0 ≤ b ∧ b ≤ 380) (hfd : μ 17 6 = 0) : AC 10 [(2, 4), (0, fr)] n μ (PI n (fun x μ' => Of Stn μ μ' ∧ fr ≤ x ∧ x ≤ μ 32 7 ∧ MX μ fr (x - fr) a b ∧ Ph n μ' (md_hr μ 0 fr.toNat) (md_hr μ fr (x - fr).toNat) (md_hr μ x (μ 32 7 - x).toNat) ∧ md_ei μ (md_hr μ fr (x - fr).toNat) ≤ 6 ∧ FDl μ a b (md_hr μ fr (x - fr).toNat) (μ' 17 6))) := by
  obtain ⟨b1, b2, b3, b4, b5, b6, b7, b8, b9⟩ := id hB
  obtain ⟨cn, ⟨c2, c3, c4, c5, c6, c7, c8⟩, ch, ck⟩ := id hC
  obtain ⟨PP, hPP⟩ : ∃ P : Option am_V → Nat → am_M → Prop, P = PI n (fun x μ' => Of Stn μ μ' ∧ fr ≤ x ∧ x ≤ μ 32 7 ∧ MX μ fr (x - fr) a b ∧ Ph n μ' (md_hr μ 0 fr.toNat) (md_hr μ fr (x - fr).toNat) (md_hr μ x (μ 32 7 - x).toNat) ∧ md_ei μ (md_hr μ fr (x - fr).toNat) ≤ 6 ∧ FDl μ a b (md_hr μ fr (x - fr).toNat) (μ' 17 6)) := ⟨_, rfl⟩
  rw [← hPP]
  have hlsb : ∀ m : Nat, fr + (m : Int) ≤ μ 32 7 → 0 ≤ md_ls μ fr m ∧ md_ls μ fr m ≤ 50 * (m : Int) := by
    intro m
    induction m with
    | zero => intro _; simp [md_ls]
    | succ m ih =>
      intro h
      have h1 := ih (by omega)
      have h2 := b8 (fr + (m : Int)) (by omega) (by omega)
      unfold md_ls
      omega
  have F : ∀ (d m : Nat) (μ1 : am_M), fr + (m : Int) + d = μ 32 7 → Of Stn μ μ1 → (∀ m' : Int, 0 < m' → m' ≤ (m : Int) → md_held μ fr m' a b) → Ph n μ1 (md_hr μ 0 fr.toNat) (md_hr μ fr m) (md_hr μ (fr + (m : Int)) d) → md_ei μ (md_hr μ fr m) ≤ 6 → FDl μ a b (md_hr μ fr m) (μ1 17 6) → AW none 10 4 [(2, 4), (0, fr), (0, fr + (m : Int)), (0, md_ls μ fr m)] [] n μ1 PP := by
    intro d
    induction d with
    | zero =>
      intro m μ1 hm hO hh hP1 he hF
      have hl : Lay n μ1 := hl0.ofS hO Stn_Sk
      have e2 : μ1 1 2 = μ 32 7 := (hO 1 2 (by unfold Stn Sdl Sd; omega)).trans c2
      refine aw_iload_n (q := 5) mX1_takeLines dX1_takeLines_4 rfl rfl ?_
      refine aw_aload_n (q := 6) mX1_takeLines dX1_takeLines_5 rfl rfl ?_
      refine aw_get (t := 2) (ji := 11) (q := 9) mX1_takeLines dX1_takeLines_6 rfl f1_52 rfl kd_4 rfl (ly_4_11 hl) ?_
      refine aw_get (t := 0) (ji := 2) (q := 12) mX1_takeLines dX1_takeLines_9 rfl f1_76 rfl kd_1 rfl e2 ?_
      refine aw_icmp_ge (tgt := 57) (q := 15) mX1_takeLines dX1_takeLines_12 rfl (by decide) (fun c_12 => ?_) (fun c_12 => ?_)
      · refine aw_iload_n (q := 58) mX1_takeLines dX1_takeLines_57 rfl rfl ?_
        refine aw_iret mX1_takeLines dX1_takeLines_58 ?_
        rw [hPP]
        have e5 : (fr + (m : Int) - fr).toNat = m := by omega
        refine ⟨_, rfl, rfl, hO, by omega, by omega, ⟨fun m' q0 q1 => hh m' q0 (by omega), fun z => by omega⟩, ?_⟩
        rw [e5, show (μ 32 7 - (fr + (m : Int))).toNat = 0 by omega]
        exact ⟨hP1, he, hF⟩
      · exact absurd c_12 (by omega)
    | succ d ih =>
      intro m μ1 hm hO hh hP1 he hF
      have hl : Lay n μ1 := hl0.ofS hO Stn_Sk
      have hBE := hO.kbe Stn_Sk
      have e2 : μ1 1 2 = μ 32 7 := (hO 1 2 (by unfold Stn Sdl Sd; omega)).trans c2
      have e4 : μ1 1 4 = μ 32 2 := (hO 1 4 (by unfold Stn Sdl Sd; omega)).trans c4
      have eh : μ1 2 (fr + (m : Int)) = μ 33 (fr + (m : Int)) := (hO 2 _ (by unfold Stn Sdl Sd; omega)).trans (ch _ (by omega) (by omega))
      have hhb := b8 (fr + (m : Int)) (by omega) (by omega)
      have hls := hlsb m (by omega)
      have hls2 : md_ls μ fr (m + 1) = md_ls μ fr m + μ 33 (fr + (m : Int)) := rfl
      have e5 : (fr + (m : Int) - fr).toNat = m := by omega
      have hcons : md_hr μ (fr + (m : Int)) (d + 1) = md_nt μ (fr + (m : Int)) (μ 32 8).toNat ++ md_hr μ (fr + (m : Int) + 1) d := md_hr_cons
      have hsucc : md_hr μ fr (m + 1) = md_hr μ fr m ++ md_nt μ (fr + (m : Int)) (μ 32 8).toNat := rfl
      -- the line is too many
      have R : ∀ μ2, Of Stn μ μ2 → Ph n μ2 (md_hr μ 0 fr.toNat) (md_hr μ fr m) (md_hr μ (fr + (m : Int)) (d + 1)) → FDl μ a b (md_hr μ fr m) (μ2 17 6) → ¬ md_held μ fr ((m : Int) + 1) a b → AW none 10 49 [(2, 4), (0, fr), (0, fr + (m : Int)), (0, md_ls μ fr (m + 1))] [] n μ2 PP := by
        intro μ2 hO2 hP2 hF2 hn
        refine aw_iload_n (q := 50) mX1_takeLines dX1_takeLines_49 rfl rfl ?_
        refine aw_iret mX1_takeLines dX1_takeLines_50 ?_
        rw [hPP]
        refine ⟨_, rfl, rfl, hO2, by omega, by omega, ⟨fun m' q0 q1 => hh m' q0 (by omega), fun _ => ?_⟩, ?_⟩
        · rw [show fr + (m : Int) - fr + 1 = (m : Int) + 1 by omega]; exact hn
        · rw [e5, show (μ 32 7 - (fr + (m : Int))).toNat = d + 1 by omega]
          exact ⟨hP2, he, hF2⟩
      rw [hls2] at R
      rw [hcons] at hP1 R
      have hit : md_held μ fr ((m : Int) + 1) a b ↔ _ := md_held_iff (μ := μ) (fr := fr) (a := a) (b := b) (m := m + 1)
      rw [hls2, hsucc] at hit
      have ea : μ1 18 11 = a := (hO 18 11 (by unfold Stn Sdl Sd; omega)).trans ha.1
      have eb : μ1 25 11 = b := (hO 25 11 (by unfold Stn Sdl Sd; omega)).trans hb.1
      have htk := pX5_takeNotesOf n μ1 (fr + (m : Int)) a b (μ1 17 6) _ _ _ _ hl (hB.tr hBE) (hC.k hO Stn_Sk) hP1 ⟨ea, ha.2⟩ ⟨eb, hb.2⟩ rfl (by rw [FDl_be hBE]; exact hF) (by rw [md_ei_tr hBE]; exact he) (fun k hk => by rw [hBE.2 34 k (by decide) (by decide)]; exact (md_nt_mem hk).2.2) (fun k hk => by
        rw [hBE.2 34 k (by decide) (by decide)]
        have := md_hr_mem hk
        omega)
      simp only [md_ei_tr hBE, FDl_be hBE, dl_can_be hBE] at htk
      refine aw_iload_n (q := 5) mX1_takeLines dX1_takeLines_4 rfl rfl ?_
      refine aw_aload_n (q := 6) mX1_takeLines dX1_takeLines_5 rfl rfl ?_
      refine aw_get (t := 2) (ji := 11) (q := 9) mX1_takeLines dX1_takeLines_6 rfl f1_52 rfl kd_4 rfl (ly_4_11 hl) ?_
      refine aw_get (t := 0) (ji := 2) (q := 12) mX1_takeLines dX1_takeLines_9 rfl f1_76 rfl kd_1 rfl e2 ?_
      refine aw_icmp_ge (tgt := 57) (q := 15) mX1_takeLines dX1_takeLines_12 rfl (by decide) (fun c_12 => ?_) (fun c_12 => ?_)
      · exact absurd c_12 (by omega)
      · refine aw_iload_n (q := 16) mX1_takeLines dX1_takeLines_15 rfl rfl ?_
        refine aw_aload_n (q := 17) mX1_takeLines dX1_takeLines_16 rfl rfl ?_
        refine aw_get (t := 2) (ji := 11) (q := 20) mX1_takeLines dX1_takeLines_17 rfl f1_52 rfl kd_4 rfl (ly_4_11 hl) ?_
        refine aw_get (t := 2) (ji := 0) (q := 23) mX1_takeLines dX1_takeLines_20 rfl f1_96 rfl kd_1 rfl (ly_1_0 hl) ?_
        refine aw_iload_n (q := 24) mX1_takeLines dX1_takeLines_23 rfl rfl ?_
        refine aw_iald (q := 25) mX1_takeLines dX1_takeLines_24 rfl kd_2 (by omega) (by omega) eh ?_
        refine aw_iadd (q := 26) mX1_takeLines dX1_takeLines_25 rfl (by omega) (by omega) ?_
        refine aw_istore_n (q := 27) mX1_takeLines dX1_takeLines_26 rfl (by decide) rfl ?_
        refine aw_iload_n (q := 28) mX1_takeLines dX1_takeLines_27 rfl rfl ?_
        refine aw_aload_n (q := 29) mX1_takeLines dX1_takeLines_28 rfl rfl ?_
        refine aw_get (t := 2) (ji := 11) (q := 32) mX1_takeLines dX1_takeLines_29 rfl f1_52 rfl kd_4 rfl (ly_4_11 hl) ?_
        refine aw_get (t := 0) (ji := 4) (q := 35) mX1_takeLines dX1_takeLines_32 rfl f1_99 rfl kd_1 rfl e4 ?_
        refine aw_icmp_gt (tgt := 49) (q := 38) mX1_takeLines dX1_takeLines_35 rfl (by decide) (fun c_35 => ?_) (fun c_35 => ?_)
        · refine R μ1 hO hP1 hF (fun z => ?_)
          have := (hit.mp z).1
          omega
        · refine aw_aload_n (q := 39) mX1_takeLines dX1_takeLines_38 rfl rfl ?_
          refine aw_get (t := 2) (ji := 13) (q := 42) mX1_takeLines dX1_takeLines_39 rfl f1_61 rfl kd_4 rfl (ly_4_13 hl) ?_
          refine aw_iload_n (q := 43) mX1_takeLines dX1_takeLines_42 rfl rfl ?_
          refine aw_v1 (ci := 5) (q := 46) mX1_takeLines dX1_takeLines_43 rfl l1_102 k10_44 rfl kd_17 rfl rfl rfl (htk) (kint (fun y μ2 hy => ?_))
          obtain ⟨q1, hy⟩ := hy
          have hO2 : Of Stn μ μ2 := hO.tr q1
          refine aw_if_ne (tgt := 51) (q := 49) mX1_takeLines dX1_takeLines_46 rfl (by decide) (fun c_46 => ?_) (fun c_46 => ?_)
          · rcases hy with ⟨-, y1, y2, y3⟩ | ⟨y1, -⟩
            · have h9 := ih (m + 1) μ2 (by omega) hO2 (fun m' q0 q1 => by
                by_cases hme : m' = (m : Int) + 1
                · rw [hme]
                  exact hit.mpr ⟨by omega, y2, μ2 17 6, y3.1, y3.2.1, y3.2.2.1⟩
                · exact hh m' q0 (by omega)) (by
                rw [hsucc, show fr + ((m + 1 : Nat) : Int) = fr + (m : Int) + 1 by omega]
                exact y1) (by rw [hsucc]; exact y2) (by rw [hsucc]; exact y3)
              refine aw_iinc (q := 54) mX1_takeLines dX1_takeLines_51 rfl rfl (by decide) (by omega) (by omega) rfl ?_
              refine aw_goto (q := 4) mX1_takeLines dX1_takeLines_54 (by decide) ?_
              rw [show fr + ((m + 1 : Nat) : Int) = fr + (m : Int) + 1 by omega, hls2] at h9
              exact h9
            · exact absurd y1 c_46
          · rcases hy with ⟨y1, -⟩ | ⟨-, y1, y2, y3⟩
            · exact absurd y1 (by omega)
            · refine R μ2 hO2 y1 (by rw [y2]; exact hF) (fun z => ?_)
              obtain ⟨-, z2, z3⟩ := hit.mp z
              exact y3 ⟨z2, z3⟩
  have hl := hl0
  have hcan0 : dl_can μ a b [] 0 := ⟨⟨0, by decide, (show (0 : Int) < 1 by decide), trivial⟩, ⟨0, by decide, (show (0 : Int) < 1 by decide), trivial⟩⟩
  refine AC.of rfl ?_
  refine aw_iload_n (q := 1) mX1_takeLines dX1_takeLines_0 rfl rfl ?_
  refine aw_istore_n (q := 2) mX1_takeLines dX1_takeLines_1 rfl (by decide) rfl ?_
  refine aw_iconst (q := 3) mX1_takeLines dX1_takeLines_2 rfl rfl ?_
  refine aw_istore_n (q := 4) mX1_takeLines dX1_takeLines_3 rfl (by decide) rfl ?_
  have h9 := F (μ 32 7 - fr).toNat 0 μ (by omega) Of.rf (fun m' q0 q1 => by omega) (by rw [show fr + ((0 : Nat) : Int) = fr by omega]; exact hP) (by show (0 : Int) ≤ 6; decide) (by
    rw [hfd]
    exact ⟨by decide, by show (0 : Int) < am_shl 0; rw [am_shl_0]; decide, hcan0, fun d d0 d1 => by omega⟩)
  rw [show fr + ((0 : Nat) : Int) = fr by omega] at h9
  exact h9

/-! calls that tell of the book: status, page, line, change, cutting, show, keep -/
theorem Sj_0 {j : Int} (h : j = 2) : Sj 0 j := by subst h; exact Or.inr (Or.inr (Or.inr (Or.inr (Or.inr (Or.inr (Or.inr (Or.inr (Or.inr (Or.inr (Or.inr (Or.inr (Or.inl ⟨rfl, rfl⟩))))))))))))
theorem Sj_1 {j : Int} (h : 2 ≤ j) (h1 : j ≤ 8) : Sj 1 j := Or.inr (Or.inr (Or.inr (Or.inr (Or.inr (Or.inr (Or.inr (Or.inr (Or.inr (Or.inr (Or.inr (Or.inr (Or.inr (Or.inl ⟨rfl, h, h1⟩)))))))))))))
theorem Sj_2 (j : Int) : Sj 2 j := Or.inr (Or.inr (Or.inr (Or.inr (Or.inr (Or.inr (Or.inr (Or.inr (Or.inr (Or.inr (Or.inr (Or.inr (Or.inr (Or.inr (Or.inl rfl))))))))))))))
theorem Sj_3 (j : Int) : Sj 3 j := Or.inr (Or.inr (Or.inr (Or.inr (Or.inr (Or.inr (Or.inr (Or.inr (Or.inr (Or.inr (Or.inr (Or.inr (Or.inr (Or.inr (Or.inr (Or.inl rfl)))))))))))))))
theorem Sj_4 {j : Int} (h : 3 ≤ j) (h1 : j ≤ 5) : Sj 4 j := Or.inr (Or.inr (Or.inr (Or.inr (Or.inr (Or.inr (Or.inl ⟨rfl, h, h1⟩))))))
theorem Sj_32 {j : Int} (h : j ≤ 8 ∨ j = 21 ∨ j = 22 ∨ j = 23 ∨ j = 39 ∨ j = 40) : Sj 32 j := Or.inr (Or.inr (Or.inr (Or.inr (Or.inr (Or.inr (Or.inr (Or.inr (Or.inr (Or.inr (Or.inr (Or.inl ⟨rfl, h⟩)))))))))))
theorem Sj_33 {a j : Int} (h : 33 ≤ a) (h1 : a ≤ 65) : Sj a j := Or.inr (Or.inr (Or.inr (Or.inr (Or.inr (Or.inr (Or.inr (Or.inr (Or.inr (Or.inr (Or.inl ⟨h, h1⟩))))))))))
theorem Sj_66 {a j : Int} (h : 66 ≤ a) (h1 : a % 2 = 1 ∨ j ≠ 4) : Sj a j := Or.inr (Or.inr (Or.inr (Or.inr (Or.inr (Or.inr (Or.inr (Or.inr (Or.inr (Or.inr (Or.inr (Or.inr (Or.inr (Or.inr (Or.inr (Or.inr ⟨h, h1⟩)))))))))))))))
theorem Sj_w {a j : Int} (h : (5 ≤ a ∧ a ≤ 11) ∨ a = 13 ∨ a = 14 ∨ a = 16 ∨ (19 ≤ a ∧ a ≤ 24) ∨ (26 ≤ a ∧ a ≤ 31) ∨ (a = 15 ∧ j = 1) ∨ (a = 17 ∧ (j = 2 ∨ j = 3 ∨ j = 5 ∨ j = 6)) ∨ ((a = 18 ∨ a = 25) ∧ 8 ≤ j ∧ j ≤ 12)) : Sj a j := by
  unfold Sj
  rcases h with h | h | h | h | h | h | h | h | h
  · exact Or.inl h
  · exact Or.inr (Or.inl h)
  · exact Or.inr (Or.inr (Or.inl h))
  · exact Or.inr (Or.inr (Or.inr (Or.inl h)))
  · exact Or.inr (Or.inr (Or.inr (Or.inr (Or.inl h))))
  · exact Or.inr (Or.inr (Or.inr (Or.inr (Or.inr (Or.inl h)))))
  · exact Or.inr (Or.inr (Or.inr (Or.inr (Or.inr (Or.inr (Or.inr (Or.inl h)))))))
  · exact Or.inr (Or.inr (Or.inr (Or.inr (Or.inr (Or.inr (Or.inr (Or.inr (Or.inl h))))))))
  · exact Or.inr (Or.inr (Or.inr (Or.inr (Or.inr (Or.inr (Or.inr (Or.inr (Or.inr (Or.inl h)))))))))
theorem J.bk {n : Nat} {μ μ2 : am_M} (hJ : J n μ) (hl : Lay n μ2) (hr : (10 ≤ μ2 32 2 ∧ μ2 32 2 ≤ 400) ∧ (0 ≤ μ2 32 3 ∧ μ2 32 3 ≤ 20) ∧ (0 ≤ μ2 32 4 ∧ μ2 32 4 ≤ 1000) ∧ (0 ≤ μ2 32 5 ∧ μ2 32 5 ≤ 15) ∧ (μ2 32 6 = 0 ∨ μ2 32 6 = 1) ∧ (μ 32 7 ≤ μ2 32 7 ∧ μ2 32 7 ≤ 60) ∧ μ2 32 8 = μ 32 8) (hc : μ2 1 2 = μ2 32 7 ∧ μ2 1 3 = μ2 32 8 ∧ μ2 1 4 = μ2 32 2 ∧ μ2 1 5 = μ2 32 3 ∧ μ2 1 6 = μ2 32 4 ∧ μ2 1 7 = μ2 32 5 ∧ μ2 1 8 = μ2 32 6) (hh : ∀ l, 0 ≤ l → l < μ2 32 7 → (1 ≤ μ2 33 l ∧ μ2 33 l ≤ 50) ∧ μ2 2 l = μ2 33 l) (h3 : ∀ j, μ2 3 j = μ 3 j) (hk : ∀ a j, 34 ≤ a → a ≤ 44 → μ2 a j = μ a j) (hn : ∀ a j, 66 ≤ a → μ2 a j = μ a j) (hs : μ2 0 2 = μ2 32 0) (hM : Mp μ2) (hP : Cp μ2) : J n μ2 := by
  obtain ⟨j1, hB, hC, hD, j5, j6, j7⟩ := hJ
  obtain ⟨b1, b2, b3, b4, b5, b6, b7, b8, b9⟩ := hB
  obtain ⟨cn, -, ch, ck⟩ := hC
  obtain ⟨r2, r3, r4, r5, r6, r7, r8⟩ := hr
  refine ⟨hl, ⟨r2, r3, r4, r5, r6, by omega, by omega, fun l l0 l1 => (hh l l0 l1).1, fun k k0 k1 => ?_⟩, ⟨by rw [r8]; exact cn, hc, fun l l0 l1 => (hh l l0 l1).2, fun k k0 k1 => ?_⟩, fun k k0 k1 => ?_, hs, hM, hP⟩
  · rw [r8] at k1
    exact (b9 k k0 k1).at r7.1 (fun a a0 a1 => hk a k a0 (by omega)) (fun c _ _ => hk 44 _ (by decide) (by decide))
  · rw [r8] at k1
    rw [h3]
    have h66 : 66 ≤ nf k := by unfold nf; omega
    exact ⟨(ck k k0 k1).1, (ck k k0 k1).2.at (b9 k k0 k1).2.2.2.2.2.2.2.1.2 (fun a a0 a1 => hk a k a0 (by omega)) (fun c _ _ => hk 44 _ (by decide) (by decide)) (fun j _ _ => hn _ j h66) (fun c _ _ => hn _ c (by omega))⟩
  · rw [r8] at k1
    rw [hk 43 k (by decide) (by decide)]
    have := hD k k0 k1
    omega
theorem J.stale {μ : am_M} (h : μ 4 5 = 1) : Cp μ := Or.inl h
theorem J.unset {μ : am_M} (h : μ 32 21 = 0) : Mp μ := Or.inr h
/-- refused, by both -/
theorem J.ref {n : Nat} {μ μ2 : am_M} {w : Int} (hJ : J n μ) (h : μ2 = am_set (am_set (am_set (am_set μ 0 2 w) 32 1 0) 32 0 0) 32 0 w) : J n μ2 := by
  refine hJ.no ?_ ?_
  · rw [h]
    exact (((Of.rf.set (Or.inl ⟨rfl, rfl⟩)).set (Or.inr ⟨rfl, Or.inr rfl⟩)).set (Or.inr ⟨rfl, Or.inl rfl⟩)).set (Or.inr ⟨rfl, Or.inl rfl⟩)
  · rw [h, am_sn (Or.inl (by decide)), am_sn (Or.inl (by decide)), am_sn (Or.inl (by decide)), am_ss, am_ss]
theorem pr_status {n : Nat} {μ : am_M} (hJ : J n μ) : Prx 50 88 [] n μ := by
  obtain ⟨hl, -, -, -, hs, -⟩ := id hJ
  refine AC.of rfl ?_
  refine aw_aload_n (q := 1) mX6_status dX6_status_0 rfl rfl ?_
  refine aw_get (t := 0) (ji := 2) (q := 4) mX6_status dX6_status_1 rfl f6_25 rfl kd_0 rfl rfl ?_
  refine aw_iret mX6_status dX6_status_4 ?_
  refine ⟨_, rfl, AC.of rfl ?_⟩
  refine aw_aload_n (q := 1) mX7_status dX7_status_0 rfl rfl ?_
  refine aw_iconst (q := 2) mX7_status dX7_status_1 rfl rfl ?_
  refine aw_put (t := 0) (ji := 1) (q := 5) mX7_status dX7_status_2 rfl f7_123 rfl kd_32 rfl (Or.inl rfl) (Or.inl (by decide)) (fun μ_2 e_2 => ?_)
  have hl : Lay n μ_2 := by rw [e_2]; exact Lay.setF lf_32_1 hl
  refine aw_aload_n (q := 6) mX7_status dX7_status_5 rfl rfl ?_
  refine aw_get (t := 0) (ji := 0) (q := 9) mX7_status dX7_status_6 rfl f7_126 rfl kd_32 rfl (rd_sn e_2 (Or.inr (by decide)) rfl) ?_
  refine aw_iret mX7_status dX7_status_9 ?_
  refine ⟨by rw [hs], hJ.no (by rw [e_2]; exact Of.rf.set (Or.inr ⟨rfl, Or.inr rfl⟩)) (by rw [e_2, am_sn (Or.inl (by decide)), am_sn (Or.inr (by decide))]; exact hs)⟩
theorem tX6_page {n : Nat} {μ : am_M} (h g : Int) (hl : Lay n μ) : AC 51 [(2, 0), (0, h), (0, g)] n μ (fun r n1 μ1 => ∃ x, r = some (0, x) ∧ n1 = n ∧ ((¬ (10 ≤ h ∧ h ≤ 400 ∧ 0 ≤ g ∧ g ≤ 20) ∧ x = 0 ∧ μ1 = am_set μ 0 2 2) ∨ ((10 ≤ h ∧ h ≤ 400 ∧ 0 ≤ g ∧ g ≤ 20) ∧ x = 1 ∧ μ1 = am_set (am_set (am_set (am_set μ 1 4 h) 1 5 g) 4 5 1) 0 2 0))) := by
  have R : ∀ L, ¬ (10 ≤ h ∧ h ≤ 400 ∧ 0 ≤ g ∧ g ≤ 20) → L = [(2, 0), (0, h), (0, g)] → AW none 51 22 L [] n μ (fun r n1 μ1 => ∃ x, r = some (0, x) ∧ n1 = n ∧ ((¬ (10 ≤ h ∧ h ≤ 400 ∧ 0 ≤ g ∧ g ≤ 20) ∧ x = 0 ∧ μ1 = am_set μ 0 2 2) ∨ ((10 ≤ h ∧ h ≤ 400 ∧ 0 ≤ g ∧ g ≤ 20) ∧ x = 1 ∧ μ1 = am_set (am_set (am_set (am_set μ 1 4 h) 1 5 g) 4 5 1) 0 2 0))) := by
    intro L hn hL
    subst hL
    refine aw_aload_n (q := 23) mX6_page dX6_page_22 rfl rfl ?_
    refine aw_iconst (q := 24) mX6_page dX6_page_23 rfl rfl ?_
    refine aw_v1 (ci := 6) (q := 27) mX6_page dX6_page_24 rfl l6_33 k51_81 rfl kd_0 rfl rfl rfl (pX6_refuse n μ 2) (kset (fun μ2 h2 => ?_))
    refine aw_zret mX6_page dX6_page_27 (by first | exact Or.inl rfl | exact Or.inr rfl | assumption | omega) ?_
    exact ⟨0, rfl, rfl, Or.inl ⟨hn, rfl, h2⟩⟩
  refine AC.of rfl ?_
  refine aw_iload_n (q := 1) mX6_page dX6_page_0 rfl rfl ?_
  refine aw_bipush (q := 3) mX6_page dX6_page_1 rfl rfl ?_
  refine aw_sipush (q := 6) mX6_page dX6_page_3 rfl rfl ?_
  refine aw_s3 (q := 9) mX6_page dX6_page_6 rfl lm6_29 l6_29 k51_84 rfl rfl rfl (pX6_within n μ h 10 400) (kint (fun y μ3 hy => ?_))
  obtain ⟨hm, hy⟩ := hy
  subst hm
  refine aw_if_eq (tgt := 22) (q := 12) mX6_page dX6_page_9 rfl (by decide) (fun c_9 => ?_) (fun c_9 => ?_)
  · exact R _ (by omega) rfl
  · refine aw_iload_n (q := 13) mX6_page dX6_page_12 rfl rfl ?_
    refine aw_iconst (q := 14) mX6_page dX6_page_13 rfl rfl ?_
    refine aw_bipush (q := 16) mX6_page dX6_page_14 rfl rfl ?_
    refine aw_s3 (q := 19) mX6_page dX6_page_16 rfl lm6_29 l6_29 k51_84 rfl rfl rfl (pX6_within n μ3 g 0 20) (kint (fun y' μ4 hy' => ?_))
    obtain ⟨hm, hy'⟩ := hy'
    subst hm
    refine aw_if_ne (tgt := 28) (q := 22) mX6_page dX6_page_19 rfl (by decide) (fun c_19 => ?_) (fun c_19 => ?_)
    · refine aw_aload_n (q := 29) mX6_page dX6_page_28 rfl rfl ?_
      refine aw_get (t := 2) (ji := 0) (q := 32) mX6_page dX6_page_29 rfl f6_12 rfl kd_0 rfl (ly_0_0 hl) ?_
      refine aw_iload_n (q := 33) mX6_page dX6_page_32 rfl rfl ?_
      refine aw_put (t := 0) (ji := 4) (q := 36) mX6_page dX6_page_33 rfl f6_37 rfl kd_1 rfl (Or.inl rfl) (Or.inl (by decide)) (fun μ_33 e_33 => ?_)
      have hl : Lay n μ_33 := by rw [e_33]; exact Lay.setF lf_1_4 hl
      refine aw_aload_n (q := 37) mX6_page dX6_page_36 rfl rfl ?_
      refine aw_get (t := 2) (ji := 0) (q := 40) mX6_page dX6_page_37 rfl f6_12 rfl kd_0 rfl (ly_0_0 hl) ?_
      refine aw_iload_n (q := 41) mX6_page dX6_page_40 rfl rfl ?_
      refine aw_put (t := 0) (ji := 5) (q := 44) mX6_page dX6_page_41 rfl f6_40 rfl kd_1 rfl (Or.inl rfl) (Or.inl (by decide)) (fun μ_41 e_41 => ?_)
      have hl : Lay n μ_41 := by rw [e_41]; exact Lay.setF lf_1_5 hl
      refine aw_aload_n (q := 45) mX6_page dX6_page_44 rfl rfl ?_
      refine aw_v0 (ci := 6) (q := 48) mX6_page dX6_page_45 rfl l6_43 k51_80 rfl kd_0 rfl rfl rfl (pX6_accept n μ_41 hl) (kset (fun μ2 h2 => ?_))
      refine aw_zret mX6_page dX6_page_48 (by first | exact Or.inl rfl | exact Or.inr rfl | assumption | omega) ?_
      exact ⟨1, rfl, rfl, Or.inr ⟨by omega, rfl, by rw [h2, e_41, e_33]⟩⟩
    · exact R _ (by omega) rfl
theorem pr_page {n : Nat} {μ : am_M} (h g : Int) (hJ : J n μ) : Prx 51 94 [(0, h), (0, g)] n μ := by
  obtain ⟨hl, hB, hC, hD, hs, hM, hP⟩ := id hJ
  refine Prx.of (tX6_page h g hl) ?_
  rintro x n1 μ1 ⟨rfl, h1⟩
  have R : ∀ L, μ1 = am_set μ 0 2 2 → x = 0 → ∀ μ2, μ2 = am_set (am_set μ1 32 1 0) 32 0 0 → L = [(2, 32), (0, h), (0, g)] → AW none 94 33 L [] n1 μ2 (fun r' n2 μ2 => r' = some (0, x) ∧ J n2 μ2) := by
    intro L e1 ex μ2 e2 hL
    subst hL
    refine aw_aload_n (q := 34) mX7_page dX7_page_33 rfl rfl ?_
    refine aw_iconst (q := 35) mX7_page dX7_page_34 rfl rfl ?_
    refine aw_v1 (ci := 7) (q := 38) mX7_page dX7_page_35 rfl l7_139 k94_90 rfl kd_32 rfl rfl rfl (pX7_no n1 μ2 2) (kset (fun μ3 h3 => ?_))
    refine aw_zret mX7_page dX7_page_38 (by first | exact Or.inl rfl | exact Or.inr rfl | assumption | omega) ?_
    exact ⟨by rw [ex], hJ.ref (w := 2) (by rw [h3, e2, e1])⟩
  refine AC.of rfl ?_
  rcases h1 with ⟨hn, hx, e1⟩ | ⟨hy, hx, e1⟩
  · refine aw_aload_n (q := 1) mX7_page dX7_page_0 rfl rfl ?_
    refine aw_iconst (q := 2) mX7_page dX7_page_1 rfl rfl ?_
    refine aw_put (t := 0) (ji := 1) (q := 5) mX7_page dX7_page_2 rfl f7_123 rfl kd_32 rfl (Or.inl rfl) (Or.inl (by decide)) (fun μ_2 e_2 => ?_)
    refine aw_aload_n (q := 6) mX7_page dX7_page_5 rfl rfl ?_
    refine aw_iconst (q := 7) mX7_page dX7_page_6 rfl rfl ?_
    refine aw_put (t := 0) (ji := 0) (q := 10) mX7_page dX7_page_7 rfl f7_126 rfl kd_32 rfl (Or.inl rfl) (Or.inl (by decide)) (fun μ_7 e_7 => ?_)
    refine aw_iload_n (q := 11) mX7_page dX7_page_10 rfl rfl ?_
    refine aw_bipush (q := 13) mX7_page dX7_page_11 rfl rfl ?_
    refine aw_icmp_lt (tgt := 33) (q := 16) mX7_page dX7_page_13 rfl (by decide) (fun c_13 => ?_) (fun c_13 => ?_)
    · exact R _ e1 hx μ_7 (by rw [e_7, e_2]) rfl
    · refine aw_iload_n (q := 17) mX7_page dX7_page_16 rfl rfl ?_
      refine aw_sipush (q := 20) mX7_page dX7_page_17 rfl rfl ?_
      refine aw_icmp_gt (tgt := 33) (q := 23) mX7_page dX7_page_20 rfl (by decide) (fun c_20 => ?_) (fun c_20 => ?_)
      · exact R _ e1 hx μ_7 (by rw [e_7, e_2]) rfl
      · refine aw_iload_n (q := 24) mX7_page dX7_page_23 rfl rfl ?_
        refine aw_if_lt (tgt := 33) (q := 27) mX7_page dX7_page_24 rfl (by decide) (fun c_24 => ?_) (fun c_24 => ?_)
        · exact R _ e1 hx μ_7 (by rw [e_7, e_2]) rfl
        · refine aw_iload_n (q := 28) mX7_page dX7_page_27 rfl rfl ?_
          refine aw_bipush (q := 30) mX7_page dX7_page_28 rfl rfl ?_
          refine aw_icmp_le (tgt := 39) (q := 33) mX7_page dX7_page_30 rfl (by decide) (fun c_30 => ?_) (fun c_30 => ?_)
          · exact absurd (by omega) hn
          · exact R _ e1 hx μ_7 (by rw [e_7, e_2]) rfl
  · refine aw_aload_n (q := 1) mX7_page dX7_page_0 rfl rfl ?_
    refine aw_iconst (q := 2) mX7_page dX7_page_1 rfl rfl ?_
    refine aw_put (t := 0) (ji := 1) (q := 5) mX7_page dX7_page_2 rfl f7_123 rfl kd_32 rfl (Or.inl rfl) (Or.inl (by decide)) (fun μ_2 e_2 => ?_)
    refine aw_aload_n (q := 6) mX7_page dX7_page_5 rfl rfl ?_
    refine aw_iconst (q := 7) mX7_page dX7_page_6 rfl rfl ?_
    refine aw_put (t := 0) (ji := 0) (q := 10) mX7_page dX7_page_7 rfl f7_126 rfl kd_32 rfl (Or.inl rfl) (Or.inl (by decide)) (fun μ_7 e_7 => ?_)
    refine aw_iload_n (q := 11) mX7_page dX7_page_10 rfl rfl ?_
    refine aw_bipush (q := 13) mX7_page dX7_page_11 rfl rfl ?_
    refine aw_icmp_lt (tgt := 33) (q := 16) mX7_page dX7_page_13 rfl (by decide) (fun c_13 => ?_) (fun c_13 => ?_)
    · exact absurd c_13 (by omega)
    · refine aw_iload_n (q := 17) mX7_page dX7_page_16 rfl rfl ?_
      refine aw_sipush (q := 20) mX7_page dX7_page_17 rfl rfl ?_
      refine aw_icmp_gt (tgt := 33) (q := 23) mX7_page dX7_page_20 rfl (by decide) (fun c_20 => ?_) (fun c_20 => ?_)
      · exact absurd c_20 (by omega)
      · refine aw_iload_n (q := 24) mX7_page dX7_page_23 rfl rfl ?_
        refine aw_if_lt (tgt := 33) (q := 27) mX7_page dX7_page_24 rfl (by decide) (fun c_24 => ?_) (fun c_24 => ?_)
        · exact absurd c_24 (by omega)
        · refine aw_iload_n (q := 28) mX7_page dX7_page_27 rfl rfl ?_
          refine aw_bipush (q := 30) mX7_page dX7_page_28 rfl rfl ?_
          refine aw_icmp_le (tgt := 39) (q := 33) mX7_page dX7_page_30 rfl (by decide) (fun c_30 => ?_) (fun c_30 => ?_)
          · refine aw_aload_n (q := 40) mX7_page dX7_page_39 rfl rfl ?_
            refine aw_iload_n (q := 41) mX7_page dX7_page_40 rfl rfl ?_
            refine aw_put (t := 0) (ji := 2) (q := 44) mX7_page dX7_page_41 rfl f7_7 rfl kd_32 rfl (Or.inl rfl) (Or.inl (by decide)) (fun μ_41 e_41 => ?_)
            refine aw_aload_n (q := 45) mX7_page dX7_page_44 rfl rfl ?_
            refine aw_iload_n (q := 46) mX7_page dX7_page_45 rfl rfl ?_
            refine aw_put (t := 0) (ji := 3) (q := 49) mX7_page dX7_page_46 rfl f7_13 rfl kd_32 rfl (Or.inl rfl) (Or.inl (by decide)) (fun μ_46 e_46 => ?_)
            refine aw_aload_n (q := 50) mX7_page dX7_page_49 rfl rfl ?_
            refine aw_v0 (ci := 7) (q := 53) mX7_page dX7_page_50 rfl l7_143 k94_91 rfl kd_32 rfl rfl rfl (pX7_done n1 μ_46) (kset (fun μ3 h3 => ?_))
            refine aw_zret mX7_page dX7_page_53 (by first | exact Or.inl rfl | exact Or.inr rfl | assumption | omega) ?_
            have hO : Of (fun a j => (a = 1 ∧ (j = 4 ∨ j = 5)) ∨ (a = 4 ∧ j = 5) ∨ (a = 0 ∧ j = 2) ∨ (a = 32 ∧ (j ≤ 3 ∨ j = 21))) μ μ3 := by
              rw [h3, e_46, e_41, e_7, e_2, e1]
              exact (((((((((Of.rf.set (by omega)).set (by omega)).set (by omega)).set (by omega)).set (by omega)).set (by omega)).set (by omega)).set (by omega)).set (by omega))
            obtain ⟨b1, b2, b3, b4, b5, b6, b7, b8, b9⟩ := id hB
            obtain ⟨cn, ⟨c2, c3, c4, c5, c6, c7, c8⟩, ch, ck⟩ := id hC
            have v2 : μ3 32 2 = h := by rw [h3, e_46, e_41]; repeat (first | rw [am_sn (Or.inl (by decide))] | rw [am_sn (Or.inr (by decide))] | rw [am_ss])
            have v3 : μ3 32 3 = g := by rw [h3, e_46, e_41]; repeat (first | rw [am_sn (Or.inl (by decide))] | rw [am_sn (Or.inr (by decide))] | rw [am_ss])
            have v14 : μ3 1 4 = h := by rw [h3, e_46, e_41, e_7, e_2, e1]; repeat (first | rw [am_sn (Or.inl (by decide))] | rw [am_sn (Or.inr (by decide))] | rw [am_ss])
            have v15 : μ3 1 5 = g := by rw [h3, e_46, e_41, e_7, e_2, e1]; repeat (first | rw [am_sn (Or.inl (by decide))] | rw [am_sn (Or.inr (by decide))] | rw [am_ss])
            have v45 : μ3 4 5 = 1 := by rw [h3, e_46, e_41, e_7, e_2, e1]; repeat (first | rw [am_sn (Or.inl (by decide))] | rw [am_sn (Or.inr (by decide))] | rw [am_ss])
            have v21 : μ3 32 21 = 0 := by rw [h3]; repeat (first | rw [am_sn (Or.inl (by decide))] | rw [am_sn (Or.inr (by decide))] | rw [am_ss])
            have vs : μ3 0 2 = μ3 32 0 := by rw [h3, e_46, e_41, e_7, e_2, e1]; repeat (first | rw [am_sn (Or.inl (by decide))] | rw [am_sn (Or.inr (by decide))] | rw [am_ss])
            have A0 : Lay n1 μ3 := Lay_j hl hO (fun a j z => by (repeat' (refine Or.elim z ?_ ?_ <;> clear z <;> intro z)) <;> first | (obtain ⟨rfl, _⟩ := z; first | exact Sj_0 (by omega) | exact Sj_1 (by omega) (by omega) | exact Sj_32 (by omega) | exact Sj_4 (by omega) (by omega) | exact Sj_2 _ | exact Sj_3 _ | exact Sj_33 (by omega) (by omega) | exact Sj_66 (by omega) (by omega) | exact Sj_w (by omega)) | (subst z; first | exact Sj_2 _ | exact Sj_3 _ | exact Sj_33 (by omega) (by omega) | exact Sj_66 (by omega) (by omega) | exact Sj_w (by omega)) | exact Sj_33 (by omega) (by omega) | exact Sj_66 (by omega) (by omega) | exact Sj_w (by omega))
            have A1 : (10 ≤ μ3 32 2 ∧ μ3 32 2 ≤ 400) := by rw [v2]; omega
            have A2 : (0 ≤ μ3 32 3 ∧ μ3 32 3 ≤ 20) := by rw [v3]; omega
            have A3 : (0 ≤ μ3 32 4 ∧ μ3 32 4 ≤ 1000) := by rw [hO 32 4 (by omega)]; exact b3
            have A4 : (0 ≤ μ3 32 5 ∧ μ3 32 5 ≤ 15) := by rw [hO 32 5 (by omega)]; exact b4
            have A5 : (μ3 32 6 = 0 ∨ μ3 32 6 = 1) := by rw [hO 32 6 (by omega)]; exact b5
            have A6 : (μ 32 7 ≤ μ3 32 7 ∧ μ3 32 7 ≤ 60) := by rw [hO 32 7 (by omega)]; omega
            have A7 : μ3 32 8 = μ 32 8 := hO 32 8 (by omega)
            have C1 : μ3 1 2 = μ3 32 7 := by rw [hO 1 2 (by omega), hO 32 7 (by omega)]; exact c2
            have C2 : μ3 1 3 = μ3 32 8 := by rw [hO 1 3 (by omega), hO 32 8 (by omega)]; exact c3
            have C3 : μ3 1 4 = μ3 32 2 := by rw [v14, v2]
            have C4 : μ3 1 5 = μ3 32 3 := by rw [v15, v3]
            have C5 : μ3 1 6 = μ3 32 4 := by rw [hO 1 6 (by omega), hO 32 4 (by omega)]; exact c6
            have C6 : μ3 1 7 = μ3 32 5 := by rw [hO 1 7 (by omega), hO 32 5 (by omega)]; exact c7
            have C7 : μ3 1 8 = μ3 32 6 := by rw [hO 1 8 (by omega), hO 32 6 (by omega)]; exact c8
            have D1 : ∀ l, 0 ≤ l → l < μ3 32 7 → (1 ≤ μ3 33 l ∧ μ3 33 l ≤ 50) ∧ μ3 2 l = μ3 33 l := fun l l0 l1 => by
              rw [hO 32 7 (by omega)] at l1
              rw [hO 33 l (by omega), hO 2 l (by omega)]
              exact ⟨b8 l l0 l1, ch l l0 l1⟩
            have D2 : ∀ j, μ3 3 j = μ 3 j := fun j => hO 3 j (by omega)
            have D3 : ∀ a j, 34 ≤ a → a ≤ 44 → μ3 a j = μ a j := fun a j _ _ => hO a j (by omega)
            have D4 : ∀ a j, 66 ≤ a → μ3 a j = μ a j := fun a j _ => hO a j (by omega)
            have hJ3 : J n1 μ3 := J.bk hJ A0 ⟨A1, A2, A3, A4, A5, A6, A7⟩ ⟨C1, C2, C3, C4, C5, C6, C7⟩ D1 D2 D3 D4 vs (J.unset v21) (J.stale v45)
            exact ⟨by rw [hx], hJ3⟩
          · exact absurd c_30 (by omega)
theorem pX0_addLine (n : Nat) (μ : am_M) (h : Int) (hl : Lay n μ) (h0 : 0 ≤ μ 1 2) (h1 : μ 1 2 < 60) : AC 1 [(2, 1), (0, h)] n μ (PE (μ 1 2) n (am_set (am_set μ 2 (μ 1 2) h) 1 2 (μ 1 2 + 1))) := by
  refine AC.of rfl ?_
  refine aw_aload_n (q := 1) mX0_addLine dX0_addLine_0 rfl rfl ?_
  refine aw_get (t := 0) (ji := 2) (q := 4) mX0_addLine dX0_addLine_1 rfl f0_34 rfl kd_1 rfl rfl ?_
  refine aw_aload_n (q := 5) mX0_addLine dX0_addLine_4 rfl rfl ?_
  refine aw_get (t := 2) (ji := 0) (q := 8) mX0_addLine dX0_addLine_5 rfl f0_9 rfl kd_1 rfl (ly_1_0 hl) ?_
  refine aw_alen (zi := 60) (q := 9) mX0_addLine dX0_addLine_8 rfl kd_2 (by decide) rfl ?_
  refine aw_icmp_lt (tgt := 14) (q := 12) mX0_addLine dX0_addLine_9 rfl (by decide) (fun c_9 => ?_) (fun c_9 => ?_)
  · refine aw_aload_n (q := 15) mX0_addLine dX0_addLine_14 rfl rfl ?_
    refine aw_get (t := 2) (ji := 0) (q := 18) mX0_addLine dX0_addLine_15 rfl f0_9 rfl kd_1 rfl (ly_1_0 hl) ?_
    refine aw_aload_n (q := 19) mX0_addLine dX0_addLine_18 rfl rfl ?_
    refine aw_get (t := 0) (ji := 2) (q := 22) mX0_addLine dX0_addLine_19 rfl f0_34 rfl kd_1 rfl rfl ?_
    refine aw_iload_n (q := 23) mX0_addLine dX0_addLine_22 rfl rfl ?_
    refine aw_iast (q := 24) mX0_addLine dX0_addLine_23 rfl kd_2 (by omega) (by omega) (fun μ_23 e_23 => ?_)
    have hl : Lay n μ_23 := by rw [e_23]; exact Lay.setA la_2 hl
    refine aw_aload_n (q := 25) mX0_addLine dX0_addLine_24 rfl rfl ?_
    refine aw_dupr (q := 26) mX0_addLine dX0_addLine_25 rfl ?_
    refine aw_get (t := 0) (ji := 2) (q := 29) mX0_addLine dX0_addLine_26 rfl f0_34 rfl kd_1 rfl (rd_sn e_23 (Or.inl (by decide)) rfl) ?_
    refine aw_dup_x1 (q := 30) mX0_addLine dX0_addLine_29 rfl ?_
    refine aw_iconst (q := 31) mX0_addLine dX0_addLine_30 rfl rfl ?_
    refine aw_iadd (q := 32) mX0_addLine dX0_addLine_31 rfl (by omega) (by omega) ?_
    refine aw_put (t := 0) (ji := 2) (q := 35) mX0_addLine dX0_addLine_32 rfl f0_34 rfl kd_1 rfl (Or.inl rfl) (Or.inl (by decide)) (fun μ_32 e_32 => ?_)
    have hl : Lay n μ_32 := by rw [e_32]; exact Lay.setF lf_1_2 hl
    refine aw_iret mX0_addLine dX0_addLine_35 ?_
    exact ⟨_, rfl, rfl, rfl, by rw [e_32, e_23]⟩
  · exact absurd c_9 (by show ¬ ¬ μ 1 2 < 60; omega)
theorem tX6_line {n : Nat} {μ : am_M} (h : Int) (hl : Lay n μ) (h0 : 0 ≤ μ 1 2) : AC 52 [(2, 0), (0, h)] n μ (fun r n1 μ1 => ∃ x, r = some (0, x) ∧ n1 = n ∧ ((∃ w, w = (if 1 ≤ h ∧ h ≤ 50 then 3 else 2) ∧ ¬ ((1 ≤ h ∧ h ≤ 50) ∧ μ 1 2 < 60) ∧ x = -1 ∧ μ1 = am_set μ 0 2 w) ∨ ((1 ≤ h ∧ h ≤ 50) ∧ μ 1 2 < 60 ∧ x = μ 1 2 ∧ μ1 = am_set (am_set (am_set (am_set (am_set μ 4 5 1) 0 2 0) 2 (μ 1 2) h) 1 2 (μ 1 2 + 1)) 0 2 0))) := by
  refine AC.of rfl ?_
  refine aw_iload_n (q := 1) mX6_line dX6_line_0 rfl rfl ?_
  refine aw_s1 (q := 4) mX6_line dX6_line_1 rfl lm6_47 l6_47 k52_85 rfl rfl rfl (pX6_isLineHeight n μ h) (kint (fun y μ3 hy => ?_))
  obtain ⟨hm, hy⟩ := hy
  subst hm
  refine aw_if_ne (tgt := 13) (q := 7) mX6_line dX6_line_4 rfl (by decide) (fun c_4 => ?_) (fun c_4 => ?_)
  · have hyy : 1 ≤ h ∧ h ≤ 50 := by omega
    refine aw_aload_n (q := 14) mX6_line dX6_line_13 rfl rfl ?_
    refine aw_get (t := 2) (ji := 0) (q := 17) mX6_line dX6_line_14 rfl f6_12 rfl kd_0 rfl (ly_0_0 hl) ?_
    refine aw_get (t := 0) (ji := 2) (q := 20) mX6_line dX6_line_17 rfl f6_54 rfl kd_1 rfl rfl ?_
    refine aw_bipush (q := 22) mX6_line dX6_line_20 rfl rfl ?_
    refine aw_icmp_lt (tgt := 31) (q := 25) mX6_line dX6_line_22 rfl (by decide) (fun c_22 => ?_) (fun c_22 => ?_)
    · refine aw_aload_n (q := 32) mX6_line dX6_line_31 rfl rfl ?_
      refine aw_v0 (ci := 6) (q := 35) mX6_line dX6_line_32 rfl l6_43 k52_80 rfl kd_0 rfl rfl rfl (pX6_accept n μ3 hl) (kset (fun μ2 h2 => ?_))
      have hl2 : Lay n μ2 := Lay_j hl (show Of (fun a j => (a = 4 ∧ j = 5) ∨ (a = 0 ∧ j = 2)) μ3 μ2 by rw [h2]; exact (Of.rf.set (by omega)).set (by omega)) (fun a j z => by (repeat' (refine Or.elim z ?_ ?_ <;> clear z <;> intro z)) <;> first | (obtain ⟨rfl, _⟩ := z; first | exact Sj_0 (by omega) | exact Sj_1 (by omega) (by omega) | exact Sj_32 (by omega) | exact Sj_4 (by omega) (by omega) | exact Sj_2 _ | exact Sj_3 _ | exact Sj_33 (by omega) (by omega) | exact Sj_66 (by omega) (by omega) | exact Sj_w (by omega)) | (subst z; first | exact Sj_2 _ | exact Sj_3 _ | exact Sj_33 (by omega) (by omega) | exact Sj_66 (by omega) (by omega) | exact Sj_w (by omega)) | exact Sj_33 (by omega) (by omega) | exact Sj_66 (by omega) (by omega) | exact Sj_w (by omega))
      have hl := hl2
      have e12 : μ2 1 2 = μ3 1 2 := by rw [h2]; repeat (first | rw [am_sn (Or.inl (by decide))] | rw [am_sn (Or.inr (by decide))] | rw [am_ss])
      have hal := pX0_addLine n μ2 h hl2 (by rw [e12]; omega) (by rw [e12]; omega)
      rw [e12] at hal
      refine aw_pop (q := 36) mX6_line dX6_line_35 rfl ?_
      refine aw_aload_n (q := 37) mX6_line dX6_line_36 rfl rfl ?_
      refine aw_aload_n (q := 38) mX6_line dX6_line_37 rfl rfl ?_
      refine aw_get (t := 2) (ji := 0) (q := 41) mX6_line dX6_line_38 rfl f6_12 rfl kd_0 rfl (ly_0_0 hl) ?_
      refine aw_iload_n (q := 42) mX6_line dX6_line_41 rfl rfl ?_
      refine aw_v1 (ci := 0) (q := 45) mX6_line dX6_line_42 rfl l6_57 k52_1 rfl kd_1 rfl rfl rfl (hal) (kset (fun μ4 h4 => ?_))
      refine aw_v1 (ci := 6) (q := 48) mX6_line dX6_line_45 rfl l6_60 k52_82 rfl kd_0 rfl rfl rfl (pX6_give n μ4 (μ3 1 2)) (kset (fun μ5 h5 => ?_))
      refine aw_iret mX6_line dX6_line_48 ?_
      exact ⟨_, rfl, rfl, Or.inr ⟨hyy, c_22, rfl, by rw [h5, h4, h2]⟩⟩
    · refine aw_aload_n (q := 26) mX6_line dX6_line_25 rfl rfl ?_
      refine aw_iconst (q := 27) mX6_line dX6_line_26 rfl rfl ?_
      refine aw_v1 (ci := 6) (q := 30) mX6_line dX6_line_27 rfl l6_50 k52_83 rfl kd_0 rfl rfl rfl (pX6_none n μ3 3) (kset (fun μ2 h2 => ?_))
      refine aw_iret mX6_line dX6_line_30 ?_
      exact ⟨_, rfl, rfl, Or.inl ⟨3, by rw [if_pos hyy], by omega, rfl, h2⟩⟩
  · have hyn : ¬ (1 ≤ h ∧ h ≤ 50) := by omega
    refine aw_aload_n (q := 8) mX6_line dX6_line_7 rfl rfl ?_
    refine aw_iconst (q := 9) mX6_line dX6_line_8 rfl rfl ?_
    refine aw_v1 (ci := 6) (q := 12) mX6_line dX6_line_9 rfl l6_50 k52_83 rfl kd_0 rfl rfl rfl (pX6_none n μ3 2) (kset (fun μ2 h2 => ?_))
    refine aw_iret mX6_line dX6_line_12 ?_
    exact ⟨_, rfl, rfl, Or.inl ⟨2, by rw [if_neg hyn], by omega, rfl, h2⟩⟩
theorem pr_line {n : Nat} {μ : am_M} (h : Int) (hJ : J n μ) : Prx 52 95 [(0, h)] n μ := by
  obtain ⟨hl, hB, hC, hD, hs, hM, hP⟩ := id hJ
  obtain ⟨b1, b2, b3, b4, b5, b6, b7, b8, b9⟩ := id hB
  obtain ⟨cn, ⟨c2, c3, c4, c5, c6, c7, c8⟩, ch, ck⟩ := id hC
  refine Prx.of (tX6_line h hl (by omega)) ?_
  rintro x n1 μ1 ⟨rfl, h1⟩
  rw [c2] at h1
  refine AC.of rfl ?_
  rcases h1 with ⟨w, hw, hn, hx, e1⟩ | ⟨hy, hlt, hx, e1⟩
  · have R2 : ∀ L μ2, ¬ (1 ≤ h ∧ h ≤ 50) → μ2 = am_set (am_set μ1 32 1 0) 32 0 0 → L = [(2, 32), (0, h)] → AW none 95 21 L [] n1 μ2 (fun r' n2 μ2 => r' = some (0, x) ∧ J n2 μ2) := by
      intro L μ2 hh e2 hL
      subst hL
      refine aw_aload_n (q := 22) mX7_line dX7_line_21 rfl rfl ?_
      refine aw_iconst (q := 23) mX7_line dX7_line_22 rfl rfl ?_
      refine aw_v1 (ci := 7) (q := 26) mX7_line dX7_line_23 rfl l7_147 k95_89 rfl kd_32 rfl rfl rfl (pX7_refuse n1 μ2 2) (kset (fun μ3 h3 => ?_))
      refine aw_iret mX7_line dX7_line_26 ?_
      rw [if_neg hh] at hw
      exact ⟨by rw [hx], hJ.ref (w := w) (by rw [h3, e2, e1, hw])⟩
    have R3 : ∀ L μ2, (1 ≤ h ∧ h ≤ 50) → μ2 = am_set (am_set μ1 32 1 0) 32 0 0 → L = [(2, 32), (0, h)] → AW none 95 27 L [] n1 μ2 (fun r' n2 μ2 => r' = some (0, x) ∧ J n2 μ2) := by
      intro L μ2 hh e2 hL
      subst hL
      have e7 : μ2 32 7 = μ 32 7 := by rw [e2, e1]; repeat (first | rw [am_sn (Or.inl (by decide))] | rw [am_sn (Or.inr (by decide))] | rw [am_ss])
      refine aw_aload_n (q := 28) mX7_line dX7_line_27 rfl rfl ?_
      refine aw_get (t := 0) (ji := 7) (q := 31) mX7_line dX7_line_28 rfl f7_133 rfl kd_32 rfl e7 ?_
      refine aw_bipush (q := 33) mX7_line dX7_line_31 rfl rfl ?_
      refine aw_icmp_ne (tgt := 42) (q := 36) mX7_line dX7_line_33 rfl (by decide) (fun c_33 => ?_) (fun c_33 => ?_)
      · exact absurd c_33 (by omega)
      · refine aw_aload_n (q := 37) mX7_line dX7_line_36 rfl rfl ?_
        refine aw_iconst (q := 38) mX7_line dX7_line_37 rfl rfl ?_
        refine aw_v1 (ci := 7) (q := 41) mX7_line dX7_line_38 rfl l7_147 k95_89 rfl kd_32 rfl rfl rfl (pX7_refuse n1 μ2 3) (kset (fun μ3 h3 => ?_))
        refine aw_iret mX7_line dX7_line_41 ?_
        rw [if_pos hh] at hw
        exact ⟨by rw [hx], hJ.ref (w := w) (by rw [h3, e2, e1, hw])⟩
    refine aw_aload_n (q := 1) mX7_line dX7_line_0 rfl rfl ?_
    refine aw_iconst (q := 2) mX7_line dX7_line_1 rfl rfl ?_
    refine aw_put (t := 0) (ji := 1) (q := 5) mX7_line dX7_line_2 rfl f7_123 rfl kd_32 rfl (Or.inl rfl) (Or.inl (by decide)) (fun μ_2 e_2 => ?_)
    refine aw_aload_n (q := 6) mX7_line dX7_line_5 rfl rfl ?_
    refine aw_iconst (q := 7) mX7_line dX7_line_6 rfl rfl ?_
    refine aw_put (t := 0) (ji := 0) (q := 10) mX7_line dX7_line_7 rfl f7_126 rfl kd_32 rfl (Or.inl rfl) (Or.inl (by decide)) (fun μ_7 e_7 => ?_)
    refine aw_iload_n (q := 11) mX7_line dX7_line_10 rfl rfl ?_
    refine aw_iconst (q := 12) mX7_line dX7_line_11 rfl rfl ?_
    refine aw_icmp_lt (tgt := 21) (q := 15) mX7_line dX7_line_12 rfl (by decide) (fun c_12 => ?_) (fun c_12 => ?_)
    · exact R2 _ μ_7 (by omega) (by rw [e_7, e_2]) rfl
    · refine aw_iload_n (q := 16) mX7_line dX7_line_15 rfl rfl ?_
      refine aw_bipush (q := 18) mX7_line dX7_line_16 rfl rfl ?_
      refine aw_icmp_le (tgt := 27) (q := 21) mX7_line dX7_line_18 rfl (by decide) (fun c_18 => ?_) (fun c_18 => ?_)
      · exact R3 _ μ_7 (by omega) (by rw [e_7, e_2]) rfl
      · exact R2 _ μ_7 (by omega) (by rw [e_7, e_2]) rfl
  · refine aw_aload_n (q := 1) mX7_line dX7_line_0 rfl rfl ?_
    refine aw_iconst (q := 2) mX7_line dX7_line_1 rfl rfl ?_
    refine aw_put (t := 0) (ji := 1) (q := 5) mX7_line dX7_line_2 rfl f7_123 rfl kd_32 rfl (Or.inl rfl) (Or.inl (by decide)) (fun μ_2 e_2 => ?_)
    refine aw_aload_n (q := 6) mX7_line dX7_line_5 rfl rfl ?_
    refine aw_iconst (q := 7) mX7_line dX7_line_6 rfl rfl ?_
    refine aw_put (t := 0) (ji := 0) (q := 10) mX7_line dX7_line_7 rfl f7_126 rfl kd_32 rfl (Or.inl rfl) (Or.inl (by decide)) (fun μ_7 e_7 => ?_)
    refine aw_iload_n (q := 11) mX7_line dX7_line_10 rfl rfl ?_
    refine aw_iconst (q := 12) mX7_line dX7_line_11 rfl rfl ?_
    refine aw_icmp_lt (tgt := 21) (q := 15) mX7_line dX7_line_12 rfl (by decide) (fun c_12 => ?_) (fun c_12 => ?_)
    · exact absurd c_12 (by omega)
    · refine aw_iload_n (q := 16) mX7_line dX7_line_15 rfl rfl ?_
      refine aw_bipush (q := 18) mX7_line dX7_line_16 rfl rfl ?_
      refine aw_icmp_le (tgt := 27) (q := 21) mX7_line dX7_line_18 rfl (by decide) (fun c_18 => ?_) (fun c_18 => ?_)
      · have e7 : μ_7 32 7 = μ 32 7 := by rw [e_7, e_2, e1]; repeat (first | rw [am_sn (Or.inl (by decide))] | rw [am_sn (Or.inr (by decide))] | rw [am_ss])
        have hl7 : Lay n1 μ_7 := Lay_j hl (show Of (fun a j => (a = 4 ∧ j = 5) ∨ (a = 0 ∧ j = 2) ∨ a = 2 ∨ (a = 1 ∧ j = 2) ∨ (a = 32 ∧ (j = 0 ∨ j = 1))) μ μ_7 by rw [e_7, e_2, e1]; exact ((((((Of.rf.set (by omega)).set (by omega)).set (by omega)).set (by omega)).set (by omega)).set (by omega)).set (by omega)) (fun a j z => by (repeat' (refine Or.elim z ?_ ?_ <;> clear z <;> intro z)) <;> first | (obtain ⟨rfl, _⟩ := z; first | exact Sj_0 (by omega) | exact Sj_1 (by omega) (by omega) | exact Sj_32 (by omega) | exact Sj_4 (by omega) (by omega) | exact Sj_2 _ | exact Sj_3 _ | exact Sj_33 (by omega) (by omega) | exact Sj_66 (by omega) (by omega) | exact Sj_w (by omega)) | (subst z; first | exact Sj_2 _ | exact Sj_3 _ | exact Sj_33 (by omega) (by omega) | exact Sj_66 (by omega) (by omega) | exact Sj_w (by omega)) | exact Sj_33 (by omega) (by omega) | exact Sj_66 (by omega) (by omega) | exact Sj_w (by omega))
        have hl := hl7
        refine aw_aload_n (q := 28) mX7_line dX7_line_27 rfl rfl ?_
        refine aw_get (t := 0) (ji := 7) (q := 31) mX7_line dX7_line_28 rfl f7_133 rfl kd_32 rfl e7 ?_
        refine aw_bipush (q := 33) mX7_line dX7_line_31 rfl rfl ?_
        refine aw_icmp_ne (tgt := 42) (q := 36) mX7_line dX7_line_33 rfl (by decide) (fun c_33 => ?_) (fun c_33 => ?_)
        · refine aw_aload_n (q := 43) mX7_line dX7_line_42 rfl rfl ?_
          refine aw_get (t := 2) (ji := 9) (q := 46) mX7_line dX7_line_43 rfl f7_22 rfl kd_32 rfl (ly_32_9 hl) ?_
          refine aw_aload_n (q := 47) mX7_line dX7_line_46 rfl rfl ?_
          refine aw_get (t := 0) (ji := 7) (q := 50) mX7_line dX7_line_47 rfl f7_133 rfl kd_32 rfl e7 ?_
          refine aw_iload_n (q := 51) mX7_line dX7_line_50 rfl rfl ?_
          refine aw_iast (q := 52) mX7_line dX7_line_51 rfl kd_33 (by omega) (by omega) (fun μ_51 e_51 => ?_)
          have hl : Lay n1 μ_51 := by rw [e_51]; exact Lay.setA la_33 hl
          refine aw_aload_n (q := 53) mX7_line dX7_line_52 rfl rfl ?_
          refine aw_dupr (q := 54) mX7_line dX7_line_53 rfl ?_
          refine aw_get (t := 0) (ji := 7) (q := 57) mX7_line dX7_line_54 rfl f7_133 rfl kd_32 rfl (rd_sn e_51 (Or.inl (by decide)) e7) ?_
          refine aw_iconst (q := 58) mX7_line dX7_line_57 rfl rfl ?_
          refine aw_iadd (q := 59) mX7_line dX7_line_58 rfl (by omega) (by omega) ?_
          refine aw_put (t := 0) (ji := 7) (q := 62) mX7_line dX7_line_59 rfl f7_133 rfl kd_32 rfl (Or.inl rfl) (Or.inl (by decide)) (fun μ_59 e_59 => ?_)
          have hl : Lay n1 μ_59 := by rw [e_59]; exact Lay.setF lf_32_7 hl
          refine aw_aload_n (q := 63) mX7_line dX7_line_62 rfl rfl ?_
          refine aw_v0 (ci := 7) (q := 66) mX7_line dX7_line_63 rfl l7_143 k95_91 rfl kd_32 rfl rfl rfl (pX7_done n1 μ_59) (kset (fun μ3 h3 => ?_))
          have e7' : μ3 32 7 = μ 32 7 + 1 := by rw [h3, e_59]; repeat (first | rw [am_sn (Or.inl (by decide))] | rw [am_sn (Or.inr (by decide))] | rw [am_ss])
          refine aw_pop (q := 67) mX7_line dX7_line_66 rfl ?_
          refine aw_aload_n (q := 68) mX7_line dX7_line_67 rfl rfl ?_
          refine aw_get (t := 0) (ji := 7) (q := 71) mX7_line dX7_line_68 rfl f7_133 rfl kd_32 rfl e7' ?_
          refine aw_iconst (q := 72) mX7_line dX7_line_71 rfl rfl ?_
          refine aw_isub (q := 73) mX7_line dX7_line_72 rfl (by omega) (by omega) ?_
          refine aw_iret mX7_line dX7_line_73 ?_
          have hO : Of (fun a j => (a = 1 ∧ j = 2) ∨ (a = 2 ∧ j = μ 32 7) ∨ (a = 33 ∧ j = μ 32 7) ∨ (a = 4 ∧ j = 5) ∨ (a = 0 ∧ j = 2) ∨ (a = 32 ∧ (j ≤ 1 ∨ j = 7 ∨ j = 21))) μ μ3 := by
            rw [h3, e_59, e_51, e_7, e_2, e1]
            exact (((((((((Of.rf.set (by omega)).set (by omega)).set (by omega)).set (by omega)).set (by omega)).set (by omega)).set (by omega)).set (by omega)).set (by omega)).set (by omega)
          have v12 : μ3 1 2 = μ 32 7 + 1 := by rw [h3, e_59, e_51, e_7, e_2, e1]; repeat (first | rw [am_sn (Or.inl (by decide))] | rw [am_sn (Or.inr (by decide))] | rw [am_ss])
          have v45 : μ3 4 5 = 1 := by rw [h3, e_59, e_51, e_7, e_2, e1]; repeat (first | rw [am_sn (Or.inl (by decide))] | rw [am_sn (Or.inr (by decide))] | rw [am_ss])
          have v21 : μ3 32 21 = 0 := by rw [h3]; repeat (first | rw [am_sn (Or.inl (by decide))] | rw [am_sn (Or.inr (by decide))] | rw [am_ss])
          have vs : μ3 0 2 = μ3 32 0 := by rw [h3, e_59, e_51, e_7, e_2, e1]; repeat (first | rw [am_sn (Or.inl (by decide))] | rw [am_sn (Or.inr (by decide))] | rw [am_ss])
          have v33 : μ3 33 (μ 32 7) = h := by rw [h3, e_59, e_51]; repeat (first | rw [am_sn (Or.inl (by decide))] | rw [am_sn (Or.inr (by decide))] | rw [am_ss])
          have v2 : μ3 2 (μ 32 7) = h := by rw [h3, e_59, e_51, e_7, e_2, e1]; repeat (first | rw [am_sn (Or.inl (by decide))] | rw [am_sn (Or.inr (by decide))] | rw [am_ss])
          refine ⟨by rw [hx]; congr 2; omega, hJ.bk (Lay_j hl7 (show Of (fun a j => (a = 33) ∨ (a = 32 ∧ (j = 7 ∨ j = 21))) μ_7 μ3 by rw [h3, e_59, e_51]; exact ((Of.rf.set (by omega)).set (by omega)).set (by omega)) (fun a j z => by (repeat' (refine Or.elim z ?_ ?_ <;> clear z <;> intro z)) <;> first | (obtain ⟨rfl, _⟩ := z; first | exact Sj_0 (by omega) | exact Sj_1 (by omega) (by omega) | exact Sj_32 (by omega) | exact Sj_4 (by omega) (by omega) | exact Sj_2 _ | exact Sj_3 _ | exact Sj_33 (by omega) (by omega) | exact Sj_66 (by omega) (by omega) | exact Sj_w (by omega)) | (subst z; first | exact Sj_2 _ | exact Sj_3 _ | exact Sj_33 (by omega) (by omega) | exact Sj_66 (by omega) (by omega) | exact Sj_w (by omega)) | exact Sj_33 (by omega) (by omega) | exact Sj_66 (by omega) (by omega) | exact Sj_w (by omega))) ⟨by rw [hO 32 2 (by omega)]; exact b1, by rw [hO 32 3 (by omega)]; exact b2, by rw [hO 32 4 (by omega)]; exact b3, by rw [hO 32 5 (by omega)]; exact b4, by rw [hO 32 6 (by omega)]; exact b5, by omega, hO 32 8 (by omega)⟩ ⟨by rw [v12, e7'], by rw [hO 1 3 (by omega), hO 32 8 (by omega)]; exact c3, by rw [hO 1 4 (by omega), hO 32 2 (by omega)]; exact c4, by rw [hO 1 5 (by omega), hO 32 3 (by omega)]; exact c5, by rw [hO 1 6 (by omega), hO 32 4 (by omega)]; exact c6, by rw [hO 1 7 (by omega), hO 32 5 (by omega)]; exact c7, by rw [hO 1 8 (by omega), hO 32 6 (by omega)]; exact c8⟩ (fun l l0 l1 => ?_) (fun j => hO 3 j (by omega)) (fun a j _ _ => hO a j (by omega)) (fun a j _ => hO a j (by omega)) vs (J.unset v21) (J.stale v45)⟩
          by_cases hle : l = μ 32 7
          · rw [hle, v33, v2]; exact ⟨hy, rfl⟩
          · rw [hO 33 l (by omega), hO 2 l (by omega)]
            exact ⟨b8 l l0 (by omega), ch l l0 (by omega)⟩
        · exact absurd c_33 (by omega)
      · exact absurd c_18 (by omega)

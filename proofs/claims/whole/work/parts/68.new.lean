/-! the call note: a new note -/
theorem Of.new {S : Int → Int → Prop} {μ μ1 : am_M} (h : Of S μ μ1) {i : Int} {f : Int → Int} (hs : ∀ j, S i j) : Of S μ (am_new μ1 i f) := fun a j ha => by
  unfold am_new
  rw [if_neg (fun z => ha (by rw [z]; exact hs j))]
  exact h a j ha
theorem am_nw {μ : am_M} {i j : Int} {f : Int → Int} : am_new μ i f i j = f j := by unfold am_new; rw [if_pos rfl]
theorem am_nn {μ : am_M} {i b j : Int} {f : Int → Int} (h : b ≠ i) : am_new μ i f b j = μ b j := by unfold am_new; rw [if_neg h]
theorem pX3_init (n : Nat) (μ : am_M) (a l h w s y : Int) (hk_a : am_kind a = (0, 3)) (h0 : 0 ≤ a) (hk : am_kind (n : Int) = (1, 3)) (han : a ≠ (n : Int)) : AC 32 [(2, a), (0, l), (0, h), (0, w), (0, s), (0, y)] n μ (fun r n' μ' => r = none ∧ n' = n + 1 ∧ Of (fun b _ => b = a ∨ b = (n : Int)) μ μ' ∧ μ' a 0 = h ∧ μ' a 1 = w ∧ μ' a 2 = s ∧ μ' a 3 = y ∧ μ' a 4 = (n : Int) ∧ μ' a 5 = μ a 5 ∧ μ' a 6 = l ∧ μ' a 7 = μ a 7 ∧ μ' a 8 = h ∧ μ' a 9 = -1 ∧ μ' a 10 = -1) := by
  refine AC.of rfl ?_
  refine aw_aload_n (q := 1) mX3_init dX3_init_0 rfl rfl ?_
  refine aw_oinit (q := 4) mX3_init dX3_init_1 rfl oi3_3 h0 (by decide) (by decide) (by decide) ?_
  refine aw_aload_n (q := 5) mX3_init dX3_init_4 rfl rfl ?_
  refine aw_iconst (q := 6) mX3_init dX3_init_5 rfl rfl ?_
  refine aw_newi (q := 8) mX3_init dX3_init_6 rfl hk rfl (fun μ_6 e_6 => ?_)
  refine aw_put (t := 2) (ji := 4) (q := 11) mX3_init dX3_init_8 rfl f3_9 rfl hk_a rfl (Or.inr ⟨rfl, rfl⟩) (Or.inl (by decide)) (fun μ_8 e_8 => ?_)
  refine aw_aload_n (q := 12) mX3_init dX3_init_11 rfl rfl ?_
  refine aw_iconst (q := 13) mX3_init dX3_init_12 rfl rfl ?_
  refine aw_put (t := 0) (ji := 9) (q := 16) mX3_init dX3_init_13 rfl f3_15 rfl hk_a rfl (Or.inl rfl) (Or.inl (by decide)) (fun μ_13 e_13 => ?_)
  refine aw_aload_n (q := 17) mX3_init dX3_init_16 rfl rfl ?_
  refine aw_iconst (q := 18) mX3_init dX3_init_17 rfl rfl ?_
  refine aw_put (t := 0) (ji := 10) (q := 21) mX3_init dX3_init_18 rfl f3_19 rfl hk_a rfl (Or.inl rfl) (Or.inl (by decide)) (fun μ_18 e_18 => ?_)
  refine aw_aload_n (q := 22) mX3_init dX3_init_21 rfl rfl ?_
  refine aw_iload_n (q := 23) mX3_init dX3_init_22 rfl rfl ?_
  refine aw_put (t := 0) (ji := 6) (q := 26) mX3_init dX3_init_23 rfl f3_22 rfl hk_a rfl (Or.inl rfl) (Or.inl (by decide)) (fun μ_23 e_23 => ?_)
  refine aw_aload_n (q := 27) mX3_init dX3_init_26 rfl rfl ?_
  refine aw_iload_n (q := 28) mX3_init dX3_init_27 rfl rfl ?_
  refine aw_put (t := 0) (ji := 0) (q := 31) mX3_init dX3_init_28 rfl f3_25 rfl hk_a rfl (Or.inr ⟨rfl, rfl⟩) (Or.inl (by decide)) (fun μ_28 e_28 => ?_)
  refine aw_aload_n (q := 32) mX3_init dX3_init_31 rfl rfl ?_
  refine aw_iload_n (q := 33) mX3_init dX3_init_32 rfl rfl ?_
  refine aw_put (t := 0) (ji := 1) (q := 36) mX3_init dX3_init_33 rfl f3_28 rfl hk_a rfl (Or.inr ⟨rfl, rfl⟩) (Or.inl (by decide)) (fun μ_33 e_33 => ?_)
  refine aw_aload_n (q := 37) mX3_init dX3_init_36 rfl rfl ?_
  refine aw_iload (q := 39) mX3_init dX3_init_37 rfl rfl ?_
  refine aw_put (t := 0) (ji := 2) (q := 42) mX3_init dX3_init_39 rfl f3_31 rfl hk_a rfl (Or.inr ⟨rfl, rfl⟩) (Or.inl (by decide)) (fun μ_39 e_39 => ?_)
  refine aw_aload_n (q := 43) mX3_init dX3_init_42 rfl rfl ?_
  refine aw_iload (q := 45) mX3_init dX3_init_43 rfl rfl ?_
  refine aw_put (t := 0) (ji := 3) (q := 48) mX3_init dX3_init_45 rfl f3_34 rfl hk_a rfl (Or.inr ⟨rfl, rfl⟩) (Or.inl (by decide)) (fun μ_45 e_45 => ?_)
  refine aw_aload_n (q := 49) mX3_init dX3_init_48 rfl rfl ?_
  refine aw_iload_n (q := 50) mX3_init dX3_init_49 rfl rfl ?_
  refine aw_put (t := 0) (ji := 8) (q := 53) mX3_init dX3_init_50 rfl f3_37 rfl hk_a rfl (Or.inl rfl) (Or.inl (by decide)) (fun μ_50 e_50 => ?_)
  refine aw_vret mX3_init dX3_init_53 ?_
  have hO : Of (fun b _ => b = a ∨ b = (n : Int)) μ μ_50 := by
    rw [e_50, e_45, e_39, e_33, e_28, e_23, e_18, e_13, e_8, e_6]
    exact (((((((((Of.rf.new (fun _ => Or.inr rfl)).set (Or.inl rfl)).set (Or.inl rfl)).set (Or.inl rfl)).set (Or.inl rfl)).set (Or.inl rfl)).set (Or.inl rfl)).set (Or.inl rfl)).set (Or.inl rfl)).set (Or.inl rfl)
  refine ⟨rfl, rfl, hO, ?_, ?_, ?_, ?_, ?_, ?_, ?_, ?_, ?_, ?_, ?_⟩ <;> rw [e_50, e_45, e_39, e_33, e_28, e_23, e_18, e_13, e_8, e_6] <;> (repeat (first | rw [am_sn (Or.inl (by decide))] | rw [am_sn (Or.inr (by decide))] | rw [am_ss] | rw [am_nn han]))
theorem pX0_addNote (n : Nat) (μ : am_M) (a : Int) (hk_a : am_kind a = (0, 3)) (h10 : μ 1 1 = 3) (h0 : 0 ≤ μ 1 3) (h1 : μ 1 3 < 24) : AC 2 [(2, 1), (2, a)] n μ (PE (μ 1 3) n (am_set (am_set μ 3 (μ 1 3) a) 1 3 (μ 1 3 + 1))) := by
  refine AC.of rfl ?_
  refine aw_aload_n (q := 1) mX0_addNote dX0_addNote_0 rfl rfl ?_
  refine aw_get (t := 0) (ji := 3) (q := 4) mX0_addNote dX0_addNote_1 rfl f0_37 rfl kd_1 rfl rfl ?_
  refine aw_aload_n (q := 5) mX0_addNote dX0_addNote_4 rfl rfl ?_
  refine aw_get (t := 2) (ji := 1) (q := 8) mX0_addNote dX0_addNote_5 rfl f0_17 rfl kd_1 rfl h10 ?_
  refine aw_alen (zi := 24) (q := 9) mX0_addNote dX0_addNote_8 rfl kd_3 (by decide) rfl ?_
  refine aw_icmp_lt (tgt := 14) (q := 12) mX0_addNote dX0_addNote_9 rfl (by decide) (fun c_9 => ?_) (fun c_9 => ?_)
  · refine aw_aload_n (q := 15) mX0_addNote dX0_addNote_14 rfl rfl ?_
    refine aw_get (t := 2) (ji := 1) (q := 18) mX0_addNote dX0_addNote_15 rfl f0_17 rfl kd_1 rfl h10 ?_
    refine aw_aload_n (q := 19) mX0_addNote dX0_addNote_18 rfl rfl ?_
    refine aw_get (t := 0) (ji := 3) (q := 22) mX0_addNote dX0_addNote_19 rfl f0_37 rfl kd_1 rfl rfl ?_
    refine aw_aload_n (q := 23) mX0_addNote dX0_addNote_22 rfl rfl ?_
    refine aw_aast (q := 24) mX0_addNote dX0_addNote_23 rfl kd_3 hk_a (by omega) (by omega) (fun μ_23 e_23 => ?_)
    refine aw_aload_n (q := 25) mX0_addNote dX0_addNote_24 rfl rfl ?_
    refine aw_dupr (q := 26) mX0_addNote dX0_addNote_25 rfl ?_
    refine aw_get (t := 0) (ji := 3) (q := 29) mX0_addNote dX0_addNote_26 rfl f0_37 rfl kd_1 rfl (rd_sn e_23 (Or.inl (by decide)) rfl) ?_
    refine aw_dup_x1 (q := 30) mX0_addNote dX0_addNote_29 rfl ?_
    refine aw_iconst (q := 31) mX0_addNote dX0_addNote_30 rfl rfl ?_
    refine aw_iadd (q := 32) mX0_addNote dX0_addNote_31 rfl (by omega) (by omega) ?_
    refine aw_put (t := 0) (ji := 3) (q := 35) mX0_addNote dX0_addNote_32 rfl f0_37 rfl kd_1 rfl (Or.inl rfl) (Or.inl (by decide)) (fun μ_32 e_32 => ?_)
    refine aw_iret mX0_addNote dX0_addNote_35 ?_
    exact ⟨_, rfl, rfl, rfl, by rw [e_32, e_23]⟩
  · exact absurd c_9 (by show ¬ ¬ μ 1 3 < 24; omega)
def w_nt (μ : am_M) (l h w s y : Int) : Int := if 0 ≤ l ∧ l < μ 32 7 then (if (1 ≤ h ∧ h ≤ 100) ∧ (1 ≤ w ∧ w ≤ 20) ∧ (0 ≤ s ∧ s ≤ 2) ∧ (0 ≤ y ∧ y ≤ 3) then (if μ 32 8 < 24 then 0 else 3) else 2) else 1
def Snw (n : Nat) (N a j : Int) : Prop := a = (n : Int) ∨ a = (n : Int) + 1 ∨ (a = 3 ∧ j = N) ∨ (a = 1 ∧ j = 3) ∨ (a = 4 ∧ j = 5) ∨ (a = 0 ∧ j = 2)
theorem tX6_note {n : Nat} {μ : am_M} (l h w s y : Int) (hJ : J n μ) : AC 54 [(2, 0), (0, l), (0, h), (0, w), (0, s), (0, y)] n μ (fun r n1 μ1 => ∃ x, r = some (0, x) ∧ ((n1 = n ∧ Cr μ (w_nt μ l h w s y) (-1) x μ1) ∨ (n1 = n + 2 ∧ w_nt μ l h w s y = 0 ∧ x = μ 32 8 ∧ Of (Snw n (μ 32 8)) μ μ1 ∧ (μ1 (n : Int) 0 = h ∧ μ1 (n : Int) 1 = w ∧ μ1 (n : Int) 2 = s ∧ μ1 (n : Int) 3 = y ∧ μ1 (n : Int) 4 = (n : Int) + 1 ∧ μ1 (n : Int) 5 = 0 ∧ μ1 (n : Int) 6 = l ∧ μ1 (n : Int) 7 = 0 ∧ μ1 (n : Int) 8 = h ∧ μ1 (n : Int) 9 = -1 ∧ μ1 (n : Int) 10 = -1) ∧ μ1 3 (μ 32 8) = (n : Int) ∧ μ1 1 3 = μ 32 8 + 1 ∧ μ1 4 5 = 1 ∧ μ1 0 2 = 0))) := by
  obtain ⟨hl, hB, hC, hD, hs, hM, hP⟩ := id hJ
  obtain ⟨cn, ⟨c2, c3, -⟩, -⟩ := id hC
  have b7 := hB.2.2.2.2.2.2.1
  obtain ⟨PP, hPP⟩ : ∃ P : Option am_V → Nat → am_M → Prop, P = (fun r n1 μ1 => ∃ x, r = some (0, x) ∧ ((n1 = n ∧ Cr μ (w_nt μ l h w s y) (-1) x μ1) ∨ (n1 = n + 2 ∧ w_nt μ l h w s y = 0 ∧ x = μ 32 8 ∧ Of (Snw n (μ 32 8)) μ μ1 ∧ (μ1 (n : Int) 0 = h ∧ μ1 (n : Int) 1 = w ∧ μ1 (n : Int) 2 = s ∧ μ1 (n : Int) 3 = y ∧ μ1 (n : Int) 4 = (n : Int) + 1 ∧ μ1 (n : Int) 5 = 0 ∧ μ1 (n : Int) 6 = l ∧ μ1 (n : Int) 7 = 0 ∧ μ1 (n : Int) 8 = h ∧ μ1 (n : Int) 9 = -1 ∧ μ1 (n : Int) 10 = -1) ∧ μ1 3 (μ 32 8) = (n : Int) ∧ μ1 1 3 = μ 32 8 + 1 ∧ μ1 4 5 = 1 ∧ μ1 0 2 = 0))) := ⟨_, rfl⟩
  rw [← hPP]
  have RF : ∀ (v : Int) (μ2 : am_M), v ≠ 0 → w_nt μ l h w s y = v → μ2 = am_set μ 0 2 v → PP (some (0, -1)) n μ2 := by
    intro v μ2 hv hw h2
    rw [hPP]
    exact ⟨_, rfl, Or.inl ⟨rfl, by rw [hw]; exact hv, rfl, by rw [hw]; exact h2⟩⟩
  -- the numbers are right, or not
  have N0 : ∀ L, (0 ≤ l ∧ l < μ 32 7) → ¬ ((1 ≤ h ∧ h ≤ 100) ∧ (1 ≤ w ∧ w ≤ 20) ∧ (0 ≤ s ∧ s ≤ 2) ∧ (0 ≤ y ∧ y ≤ 3)) → L = [(2, 0), (0, l), (0, h), (0, w), (0, s), (0, y), (9, 0)] → AW none 54 58 L [] n μ PP := by
    intro L hll hn hL
    subst hL
    refine aw_iconst (q := 59) mX6_note dX6_note_58 rfl rfl ?_
    refine aw_istore (q := 61) mX6_note dX6_note_59 rfl (by decide) rfl ?_
    refine aw_iload (q := 63) mX6_note dX6_note_61 rfl rfl ?_
    refine aw_if_ne (tgt := 72) (q := 66) mX6_note dX6_note_63 rfl (by decide) (fun c_63 => ?_) (fun c_63 => ?_)
    · exact absurd rfl c_63
    · refine aw_aload_n (q := 67) mX6_note dX6_note_66 rfl rfl ?_
      refine aw_iconst (q := 68) mX6_note dX6_note_67 rfl rfl ?_
      refine aw_v1 (ci := 6) (q := 71) mX6_note dX6_note_68 rfl l6_50 k54_83 rfl kd_0 rfl rfl rfl (pX6_none n μ 2) (kset (fun μ2 h2 => ?_))
      refine aw_iret mX6_note dX6_note_71 ?_
      exact RF 2 μ2 (by decide) (by unfold w_nt; rw [if_pos hll, if_neg hn]) h2
  refine AC.of rfl ?_
  refine aw_aload_n (q := 1) mX6_note dX6_note_0 rfl rfl ?_
  refine aw_get (t := 2) (ji := 0) (q := 4) mX6_note dX6_note_1 rfl f6_12 rfl kd_0 rfl (ly_0_0 hl) ?_
  refine aw_iload_n (q := 5) mX6_note dX6_note_4 rfl rfl ?_
  refine aw_v1 (ci := 0) (q := 8) mX6_note dX6_note_5 rfl l6_63 k54_3 rfl kd_1 rfl rfl rfl (pX0_hasLine n μ l) (kint (fun q μ3 hy => ?_))
  obtain ⟨hm, hy⟩ := hy
  subst hm
  rw [c2] at hy
  refine aw_if_ne (tgt := 17) (q := 11) mX6_note dX6_note_8 rfl (by decide) (fun c_8 => ?_) (fun c_8 => ?_)
  rotate_left
  · refine aw_aload_n (q := 12) mX6_note dX6_note_11 rfl rfl ?_
    refine aw_iconst (q := 13) mX6_note dX6_note_12 rfl rfl ?_
    refine aw_v1 (ci := 6) (q := 16) mX6_note dX6_note_13 rfl l6_50 k54_83 rfl kd_0 rfl rfl rfl (pX6_none n μ3 1) (kset (fun μ2 h2 => ?_))
    refine aw_iret mX6_note dX6_note_16 ?_
    exact RF 1 μ2 (by decide) (by unfold w_nt; rw [if_neg (by omega)]) h2
  have hll : 0 ≤ l ∧ l < μ3 32 7 := by omega
  refine aw_iload_n (q := 18) mX6_note dX6_note_17 rfl rfl ?_
  refine aw_s1 (q := 21) mX6_note dX6_note_18 rfl lm6_70 l6_70 k54_86 rfl rfl rfl (pX6_isNoteHeight n μ3 h) (kint (fun q1 μ4 hy1 => ?_))
  obtain ⟨hm, hy1⟩ := hy1
  subst hm
  refine aw_if_eq (tgt := 58) (q := 24) mX6_note dX6_note_21 rfl (by decide) (fun c_21 => ?_) (fun c_21 => ?_)
  · exact N0 _ hll (by omega) rfl
  refine aw_iload_n (q := 25) mX6_note dX6_note_24 rfl rfl ?_
  refine aw_iconst (q := 26) mX6_note dX6_note_25 rfl rfl ?_
  refine aw_bipush (q := 28) mX6_note dX6_note_26 rfl rfl ?_
  refine aw_s3 (q := 31) mX6_note dX6_note_28 rfl lm6_29 l6_29 k54_84 rfl rfl rfl (pX6_within n μ4 w 1 20) (kint (fun q2 μ5 hy2 => ?_))
  obtain ⟨hm, hy2⟩ := hy2
  subst hm
  refine aw_if_eq (tgt := 58) (q := 34) mX6_note dX6_note_31 rfl (by decide) (fun c_31 => ?_) (fun c_31 => ?_)
  · exact N0 _ hll (by omega) rfl
  refine aw_iload (q := 36) mX6_note dX6_note_34 rfl rfl ?_
  refine aw_iconst (q := 37) mX6_note dX6_note_36 rfl rfl ?_
  refine aw_iconst (q := 38) mX6_note dX6_note_37 rfl rfl ?_
  refine aw_s3 (q := 41) mX6_note dX6_note_38 rfl lm6_29 l6_29 k54_84 rfl rfl rfl (pX6_within n μ5 s 0 2) (kint (fun q3 μ6 hy3 => ?_))
  obtain ⟨hm, hy3⟩ := hy3
  subst hm
  refine aw_if_eq (tgt := 58) (q := 44) mX6_note dX6_note_41 rfl (by decide) (fun c_41 => ?_) (fun c_41 => ?_)
  · exact N0 _ hll (by omega) rfl
  refine aw_iload (q := 46) mX6_note dX6_note_44 rfl rfl ?_
  refine aw_iconst (q := 47) mX6_note dX6_note_46 rfl rfl ?_
  refine aw_iconst (q := 48) mX6_note dX6_note_47 rfl rfl ?_
  refine aw_s3 (q := 51) mX6_note dX6_note_48 rfl lm6_29 l6_29 k54_84 rfl rfl rfl (pX6_within n μ6 y 0 3) (kint (fun q4 μ7 hy4 => ?_))
  obtain ⟨hm, hy4⟩ := hy4
  subst hm
  refine aw_if_eq (tgt := 58) (q := 54) mX6_note dX6_note_51 rfl (by decide) (fun c_51 => ?_) (fun c_51 => ?_)
  · exact N0 _ hll (by omega) rfl
  have hok : (1 ≤ h ∧ h ≤ 100) ∧ (1 ≤ w ∧ w ≤ 20) ∧ (0 ≤ s ∧ s ≤ 2) ∧ (0 ≤ y ∧ y ≤ 3) := by omega
  refine aw_iconst (q := 55) mX6_note dX6_note_54 rfl rfl ?_
  refine aw_goto (q := 59) mX6_note dX6_note_55 (by decide) ?_
  refine aw_istore (q := 61) mX6_note dX6_note_59 rfl (by decide) rfl ?_
  refine aw_iload (q := 63) mX6_note dX6_note_61 rfl rfl ?_
  refine aw_if_ne (tgt := 72) (q := 66) mX6_note dX6_note_63 rfl (by decide) (fun c_63 => ?_) (fun c_63 => ?_)
  rotate_left
  · exact absurd c_63 (by decide)
  refine aw_aload_n (q := 73) mX6_note dX6_note_72 rfl rfl ?_
  refine aw_get (t := 2) (ji := 0) (q := 76) mX6_note dX6_note_73 rfl f6_12 rfl kd_0 rfl (ly_0_0 hl) ?_
  refine aw_get (t := 0) (ji := 3) (q := 79) mX6_note dX6_note_76 rfl f6_73 rfl kd_1 rfl c3 ?_
  refine aw_bipush (q := 81) mX6_note dX6_note_79 rfl rfl ?_
  refine aw_icmp_lt (tgt := 90) (q := 84) mX6_note dX6_note_81 rfl (by decide) (fun c_81 => ?_) (fun c_81 => ?_)
  rotate_left
  · refine aw_aload_n (q := 85) mX6_note dX6_note_84 rfl rfl ?_
    refine aw_iconst (q := 86) mX6_note dX6_note_85 rfl rfl ?_
    refine aw_v1 (ci := 6) (q := 89) mX6_note dX6_note_86 rfl l6_50 k54_83 rfl kd_0 rfl rfl rfl (pX6_none n μ7 3) (kset (fun μ2 h2 => ?_))
    refine aw_iret mX6_note dX6_note_89 ?_
    exact RF 3 μ2 (by decide) (by unfold w_nt; rw [if_pos hll, if_pos hok, if_neg c_81]) h2
  have hw0 : w_nt μ7 l h w s y = 0 := by unfold w_nt; rw [if_pos hll, if_pos hok, if_pos c_81]
  obtain ⟨N, hN⟩ : ∃ N, N = μ7 32 8 := ⟨_, rfl⟩
  have hkn : am_kind (n : Int) = (0, 3) := kd_note (by omega) (by omega)
  have hkc : am_kind ((n + 1 : Nat) : Int) = (1, 3) := kd_cuts (by omega) (by omega)
  refine aw_aload_n (q := 91) mX6_note dX6_note_90 rfl rfl ?_
  refine aw_v0 (ci := 6) (q := 94) mX6_note dX6_note_91 rfl l6_43 k54_80 rfl kd_0 rfl rfl rfl (pX6_accept n μ7 hl) (kset (fun μ8 h8 => ?_))
  have hl8 : Lay n μ8 := Lay_j hl (show Of (fun a j => (a = 4 ∧ j = 5) ∨ (a = 0 ∧ j = 2)) μ7 μ8 by rw [h8]; exact (Of.rf.set (by omega)).set (by omega)) (fun a j z => by (repeat' (refine Or.elim z ?_ ?_ <;> clear z <;> intro z)) <;> first | (obtain ⟨rfl, _⟩ := z; first | exact Sj_0 (by omega) | exact Sj_1 (by omega) (by omega) | exact Sj_32 (by omega) | exact Sj_4 (by omega) (by omega) | exact Sj_2 _ | exact Sj_3 _ | exact Sj_33 (by omega) (by omega) | exact Sj_66 (by omega) (by omega) | exact Sj_w (by omega)) | (subst z; first | exact Sj_2 _ | exact Sj_3 _ | exact Sj_33 (by omega) (by omega) | exact Sj_66 (by omega) (by omega) | exact Sj_w (by omega)) | exact Sj_33 (by omega) (by omega) | exact Sj_66 (by omega) (by omega) | exact Sj_w (by omega))
  have hl := hl8
  refine aw_pop (q := 95) mX6_note dX6_note_94 rfl ?_
  refine aw_aload_n (q := 96) mX6_note dX6_note_95 rfl rfl ?_
  refine aw_aload_n (q := 97) mX6_note dX6_note_96 rfl rfl ?_
  refine aw_get (t := 2) (ji := 0) (q := 100) mX6_note dX6_note_97 rfl f6_12 rfl kd_0 rfl (ly_0_0 hl) ?_
  refine aw_new (q := 103) mX6_note dX6_note_100 rfl nl6_76 (by decide) hkn (fun μ_100 e_100 => ?_)
  refine aw_dupr (q := 104) mX6_note dX6_note_103 rfl ?_
  refine aw_iload_n (q := 105) mX6_note dX6_note_104 rfl rfl ?_
  refine aw_iload_n (q := 106) mX6_note dX6_note_105 rfl rfl ?_
  refine aw_iload_n (q := 107) mX6_note dX6_note_106 rfl rfl ?_
  refine aw_iload (q := 109) mX6_note dX6_note_107 rfl rfl ?_
  refine aw_iload (q := 111) mX6_note dX6_note_109 rfl rfl ?_
  have hini := pX3_init (n + 1) μ_100 (n : Int) l h w s y hkn (by omega) hkc (by omega)
  refine aw_i5 (ci := 3) (q := 114) mX6_note dX6_note_111 rfl lo6_78 l6_78 k54_32 rfl hkn rfl rfl rfl (hini) (fun r n' μ9 h9 => ?_)
  obtain ⟨h91, h92, hO9, f0, f1, f2, f3, f4, f5, f6, f7, f8, f9, f10⟩ := h9
  rw [h91, h92]
  have hO9' : Of (Snw n (μ7 32 8)) μ7 μ9 := by
    have h1 : Of (Snw n (μ7 32 8)) μ7 μ8 := by rw [h8]; exact (Of.rf.set (by unfold Snw; omega)).set (by unfold Snw; omega)
    have h2 : Of (Snw n (μ7 32 8)) μ7 μ_100 := by rw [e_100]; exact h1.new (fun j => by unfold Snw; omega)
    exact h2.tr (hO9.mono (fun a j z => by unfold Snw; omega))
  have g13 : μ9 1 3 = μ7 32 8 := by
    rw [hO9 1 3 (by omega), e_100, am_nn (by omega), h8, am_sn (Or.inl (by decide)), am_sn (Or.inl (by decide)), c3]
  have g11 : μ9 1 1 = 3 := by
    rw [hO9 1 1 (by omega), e_100, am_nn (by omega)]
    exact ly_1_1 hl8
  have hadd := pX0_addNote (n + 1 + 1) μ9 (n : Int) hkn g11 (by omega) (by omega)
  rw [g13] at hadd
  show AW none 54 114 _ ([] ++ _) _ _ _
  refine aw_v1 (ci := 0) (q := 117) mX6_note dX6_note_114 rfl l6_81 k54_2 rfl kd_1 rfl rfl rfl (hadd) (kset (fun μ10 h10 => ?_))
  refine aw_v1 (ci := 6) (q := 120) mX6_note dX6_note_117 rfl l6_60 k54_82 rfl kd_0 rfl rfl rfl (pX6_give (n + 1 + 1) μ10 (μ7 32 8)) (kset (fun μ11 h11 => ?_))
  refine aw_iret mX6_note dX6_note_120 ?_
  rw [hPP]
  have kp : ∀ a j, a ≠ 0 → a ≠ 1 → a ≠ 3 → μ11 a j = μ9 a j := fun a j z0 z1 z3 => by rw [h11, am_sn (Or.inl z0), h10, am_sn (Or.inl z1), am_sn (Or.inl z3)]
  have z5 : μ9 (n : Int) 5 = 0 := by rw [f5, e_100, am_nw]; rfl
  have z7 : μ9 (n : Int) 7 = 0 := by rw [f7, e_100, am_nw]; rfl
  refine ⟨_, rfl, Or.inr ⟨rfl, hw0, rfl, ?_, ⟨?_, ?_, ?_, ?_, ?_, ?_, ?_, ?_, ?_, ?_, ?_⟩, ?_, ?_, ?_, ?_⟩⟩
  · rw [h11, h10]
    exact ((hO9'.set (by unfold Snw; omega)).set (by unfold Snw; omega)).set (by unfold Snw; omega)
  · rw [kp _ _ (by omega) (by omega) (by omega)]; exact f0
  · rw [kp _ _ (by omega) (by omega) (by omega)]; exact f1
  · rw [kp _ _ (by omega) (by omega) (by omega)]; exact f2
  · rw [kp _ _ (by omega) (by omega) (by omega)]; exact f3
  · rw [kp _ _ (by omega) (by omega) (by omega), f4]; omega
  · rw [kp _ _ (by omega) (by omega) (by omega)]; exact z5
  · rw [kp _ _ (by omega) (by omega) (by omega)]; exact f6
  · rw [kp _ _ (by omega) (by omega) (by omega)]; exact z7
  · rw [kp _ _ (by omega) (by omega) (by omega)]; exact f8
  · rw [kp _ _ (by omega) (by omega) (by omega)]; exact f9
  · rw [kp _ _ (by omega) (by omega) (by omega)]; exact f10
  · rw [h11, am_sn (Or.inl (by decide)), h10, am_sn (Or.inl (by decide)), am_ss]
  · rw [h11, am_sn (Or.inl (by decide)), h10, am_ss]
  · rw [kp _ _ (by omega) (by omega) (by omega), hO9 4 5 (by omega), e_100, am_nn (by omega), h8, am_sn (Or.inl (by decide)), am_ss]
  · rw [h11, am_ss]
theorem pr_note {n : Nat} {μ : am_M} (l h w s y : Int) (hJ : J n μ) : Prx 54 97 [(0, l), (0, h), (0, w), (0, s), (0, y)] n μ := by
  obtain ⟨hl, hB, hC, hD, hs, hM, hP⟩ := id hJ
  obtain ⟨b1, b2, b3, b4, b5, b6, b7, b8, b9⟩ := id hB
  obtain ⟨cn, ⟨c2, c3, c4, c5, c6, c7, c8⟩, ch, ck⟩ := id hC
  refine Prx.of (R := fun x n1 μ1 => _) (tX6_note l h w s y hJ) ?_
  intro x n1 μ1 h1
  have R : ∀ (μ2 μ3 : am_M) (v : Int), v ≠ 0 → w_nt μ l h w s y = v → μ2 = am_set (am_set μ1 32 1 0) 32 0 0 → μ3 = am_set μ2 32 0 v → (some ((0 : Nat), (-1 : Int)) = some (0, x) ∧ J n1 μ3) := by
    intro μ2 μ3 v hv0 hv e2 e3
    rcases h1 with ⟨hn, -, hx, e1⟩ | ⟨-, h0, -⟩
    · rw [hn]; exact ⟨by rw [hx], hJ.ref (w := v) (by rw [e3, e2, e1, hv])⟩
    · omega
  have hk3 : Of (Snw n (μ 32 8)) μ μ1 := by
    rcases h1 with ⟨-, -, -, e1⟩ | ⟨-, -, -, e1, -⟩
    · rw [e1]; exact Of.rf.set (by unfold Snw; omega)
    · exact e1
  have hl1 : Lay n μ1 := ⟨fun q hq => by
    have q66 := of_decide_eq_true (List.all_eq_true.mp am_lay66 q hq)
    have h1' := List.all_eq_true.mp am_layWk3 q hq
    simp only [Bool.and_eq_true, Bool.not_eq_true', decide_eq_false_iff_not, decide_eq_true_eq] at h1'
    rw [hk3 q.1 q.2.1 (by unfold Snw; omega)]
    exact hl.1 q hq, fun a a1 a2 a3 => by rw [hk3 a 4 (by unfold Snw; omega)]; exact hl.2 a a1 a2 a3⟩
  have hl := hl1
  refine AC.of rfl ?_
  refine aw_aload_n (q := 1) mX7_note dX7_note_0 rfl rfl ?_
  refine aw_iconst (q := 2) mX7_note dX7_note_1 rfl rfl ?_
  refine aw_put (t := 0) (ji := 1) (q := 5) mX7_note dX7_note_2 rfl f7_123 rfl kd_32 rfl (Or.inl rfl) (Or.inl (by decide)) (fun μ_2 e_2 => ?_)
  refine aw_aload_n (q := 6) mX7_note dX7_note_5 rfl rfl ?_
  refine aw_iconst (q := 7) mX7_note dX7_note_6 rfl rfl ?_
  refine aw_put (t := 0) (ji := 0) (q := 10) mX7_note dX7_note_7 rfl f7_126 rfl kd_32 rfl (Or.inl rfl) (Or.inl (by decide)) (fun μ_7 e_7 => ?_)
  refine aw_aload_n (q := 11) mX7_note dX7_note_10 rfl rfl ?_
  refine aw_iload_n (q := 12) mX7_note dX7_note_11 rfl rfl ?_
  have hO7 : Of (fun a j => Snw n (μ 32 8) a j ∨ (a = 32 ∧ (j = 0 ∨ j = 1))) μ μ_7 := by
    rw [e_7, e_2]; exact ((hk3.mono (fun a j z => Or.inl z)).set (by omega)).set (by omega)
  have e7 : μ_7 32 7 = μ 32 7 := hO7 32 7 (by unfold Snw; omega)
  have e8 : μ_7 32 8 = μ 32 8 := hO7 32 8 (by unfold Snw; omega)
  have hl7 : Lay n μ_7 := by rw [e_7, e_2]; exact Lay.setF lf_32_0 (Lay.setF lf_32_1 hl1)
  have hil := pX7_isLineB n1 μ_7 l (by
    refine ⟨hl7.1, ?_⟩
    intro a a1 a2 a3
    rcases h1 with ⟨hn, -⟩ | ⟨hn, -, -, -, ⟨-, -, -, -, g4, -⟩, -⟩
    · rw [hn] at a2; exact hl7.2 a a1 a2 a3
    · by_cases hane : a < (n : Int)
      · exact hl7.2 a a1 hane a3
      · have : a = (n : Int) := by omega
        rw [this, e_7, am_sn (Or.inl (by omega)), e_2, am_sn (Or.inl (by omega))]
        exact g4)
  rw [e7] at hil
  refine aw_v1 (ci := 7) (q := 15) mX7_note dX7_note_12 rfl l7_151 k97_92 rfl kd_32 rfl rfl rfl (hil) (kint (fun q μ3 hy => ?_))
  obtain ⟨hm3, hy⟩ := hy
  subst hm3
  have hl := hl7
  refine aw_if_ne (tgt := 24) (q := 18) mX7_note dX7_note_15 rfl (by decide) (fun c_15 => ?_) (fun c_15 => ?_)
  rotate_left
  · refine aw_aload_n (q := 19) mX7_note dX7_note_18 rfl rfl ?_
    refine aw_iconst (q := 20) mX7_note dX7_note_19 rfl rfl ?_
    refine aw_v1 (ci := 7) (q := 23) mX7_note dX7_note_20 rfl l7_147 k97_89 rfl kd_32 rfl rfl rfl (pX7_refuse n1 μ3 1) (kset (fun μ4 h4 => ?_))
    refine aw_iret mX7_note dX7_note_23 ?_
    exact R μ3 μ4 1 (by decide) (by unfold w_nt; rw [if_neg (by omega)]) (by rw [e_7, e_2]) h4
  have hll : 0 ≤ l ∧ l < μ 32 7 := by omega
  have R2 : ∀ L, ¬ ((1 ≤ h ∧ h ≤ 100) ∧ (1 ≤ w ∧ w ≤ 20) ∧ (0 ≤ s ∧ s ≤ 2) ∧ (0 ≤ y ∧ y ≤ 3)) → L = [(2, 32), (0, l), (0, h), (0, w), (0, s), (0, y)] → AW none 97 68 L [] n1 μ3 (fun r' n2 μ2 => r' = some (0, x) ∧ J n2 μ2) := by
    intro L hh hL
    subst hL
    refine aw_aload_n (q := 69) mX7_note dX7_note_68 rfl rfl ?_
    refine aw_iconst (q := 70) mX7_note dX7_note_69 rfl rfl ?_
    refine aw_v1 (ci := 7) (q := 73) mX7_note dX7_note_70 rfl l7_147 k97_89 rfl kd_32 rfl rfl rfl (pX7_refuse n1 μ3 2) (kset (fun μ4 h4 => ?_))
    refine aw_iret mX7_note dX7_note_73 ?_
    exact R μ3 μ4 2 (by decide) (by unfold w_nt; rw [if_pos hll, if_neg hh]) (by rw [e_7, e_2]) h4
  refine aw_iload_n (q := 25) mX7_note dX7_note_24 rfl rfl ?_
  refine aw_iconst (q := 26) mX7_note dX7_note_25 rfl rfl ?_
  refine aw_icmp_lt (tgt := 68) (q := 29) mX7_note dX7_note_26 rfl (by decide) (fun c_26 => ?_) (fun c_26 => ?_)
  · exact R2 _ (by omega) rfl
  refine aw_iload_n (q := 30) mX7_note dX7_note_29 rfl rfl ?_
  refine aw_bipush (q := 32) mX7_note dX7_note_30 rfl rfl ?_
  refine aw_icmp_gt (tgt := 68) (q := 35) mX7_note dX7_note_32 rfl (by decide) (fun c_32 => ?_) (fun c_32 => ?_)
  · exact R2 _ (by omega) rfl
  refine aw_iload_n (q := 36) mX7_note dX7_note_35 rfl rfl ?_
  refine aw_iconst (q := 37) mX7_note dX7_note_36 rfl rfl ?_
  refine aw_icmp_lt (tgt := 68) (q := 40) mX7_note dX7_note_37 rfl (by decide) (fun c_37 => ?_) (fun c_37 => ?_)
  · exact R2 _ (by omega) rfl
  refine aw_iload_n (q := 41) mX7_note dX7_note_40 rfl rfl ?_
  refine aw_bipush (q := 43) mX7_note dX7_note_41 rfl rfl ?_
  refine aw_icmp_gt (tgt := 68) (q := 46) mX7_note dX7_note_43 rfl (by decide) (fun c_43 => ?_) (fun c_43 => ?_)
  · exact R2 _ (by omega) rfl
  refine aw_iload (q := 48) mX7_note dX7_note_46 rfl rfl ?_
  refine aw_if_lt (tgt := 68) (q := 51) mX7_note dX7_note_48 rfl (by decide) (fun c_48 => ?_) (fun c_48 => ?_)
  · exact R2 _ (by omega) rfl
  refine aw_iload (q := 53) mX7_note dX7_note_51 rfl rfl ?_
  refine aw_iconst (q := 54) mX7_note dX7_note_53 rfl rfl ?_
  refine aw_icmp_gt (tgt := 68) (q := 57) mX7_note dX7_note_54 rfl (by decide) (fun c_54 => ?_) (fun c_54 => ?_)
  · exact R2 _ (by omega) rfl
  refine aw_iload (q := 59) mX7_note dX7_note_57 rfl rfl ?_
  refine aw_if_lt (tgt := 68) (q := 62) mX7_note dX7_note_59 rfl (by decide) (fun c_59 => ?_) (fun c_59 => ?_)
  · exact R2 _ (by omega) rfl
  refine aw_iload (q := 64) mX7_note dX7_note_62 rfl rfl ?_
  refine aw_iconst (q := 65) mX7_note dX7_note_64 rfl rfl ?_
  refine aw_icmp_le (tgt := 74) (q := 68) mX7_note dX7_note_65 rfl (by decide) (fun c_65 => ?_) (fun c_65 => ?_)
  rotate_left
  · exact R2 _ (by omega) rfl
  have hok : (1 ≤ h ∧ h ≤ 100) ∧ (1 ≤ w ∧ w ≤ 20) ∧ (0 ≤ s ∧ s ≤ 2) ∧ (0 ≤ y ∧ y ≤ 3) := by omega
  refine aw_aload_n (q := 75) mX7_note dX7_note_74 rfl rfl ?_
  refine aw_get (t := 0) (ji := 8) (q := 78) mX7_note dX7_note_75 rfl f7_136 rfl kd_32 rfl e8 ?_
  refine aw_bipush (q := 80) mX7_note dX7_note_78 rfl rfl ?_
  refine aw_icmp_ne (tgt := 89) (q := 83) mX7_note dX7_note_80 rfl (by decide) (fun c_80 => ?_) (fun c_80 => ?_)
  rotate_left
  · refine aw_aload_n (q := 84) mX7_note dX7_note_83 rfl rfl ?_
    refine aw_iconst (q := 85) mX7_note dX7_note_84 rfl rfl ?_
    refine aw_v1 (ci := 7) (q := 88) mX7_note dX7_note_85 rfl l7_147 k97_89 rfl kd_32 rfl rfl rfl (pX7_refuse n1 μ3 3) (kset (fun μ4 h4 => ?_))
    refine aw_iret mX7_note dX7_note_88 ?_
    exact R μ3 μ4 3 (by decide) (by unfold w_nt; rw [if_pos hll, if_pos hok, if_neg (by omega)]) (by rw [e_7, e_2]) h4
  have hw0 : w_nt μ l h w s y = 0 := by unfold w_nt; rw [if_pos hll, if_pos hok, if_pos (by omega)]
  obtain ⟨hn, hx, o1, ⟨f0, f1, f2, f3, f4, f5, f6, f7, f8, f9, f10⟩, o2, o3, o4, o5⟩ : n1 = n + 2 ∧ x = μ 32 8 ∧ Of (Snw n (μ 32 8)) μ μ1 ∧ (μ1 (n : Int) 0 = h ∧ μ1 (n : Int) 1 = w ∧ μ1 (n : Int) 2 = s ∧ μ1 (n : Int) 3 = y ∧ μ1 (n : Int) 4 = (n : Int) + 1 ∧ μ1 (n : Int) 5 = 0 ∧ μ1 (n : Int) 6 = l ∧ μ1 (n : Int) 7 = 0 ∧ μ1 (n : Int) 8 = h ∧ μ1 (n : Int) 9 = -1 ∧ μ1 (n : Int) 10 = -1) ∧ μ1 3 (μ 32 8) = (n : Int) ∧ μ1 1 3 = μ 32 8 + 1 ∧ μ1 4 5 = 1 ∧ μ1 0 2 = 0 := by
    rcases h1 with ⟨-, h0, -⟩ | ⟨hn, -, z⟩
    · exact absurd hw0 h0
    · exact ⟨hn, z⟩
  obtain ⟨N, hN⟩ : ∃ N, N = μ 32 8 := ⟨_, rfl⟩
  rw [← hN] at e8 o1 o2 o3 hx hO7 hk3
  have b7' : 0 ≤ N ∧ N < 24 := by omega
  have s1 : ∀ (μa μb : am_M) (c j v : Int), μb = am_set μa c j v → c ≠ 32 → μa 32 8 = N → μb 32 8 = N := fun μa μb c j v e hc ha => by rw [e, am_sn (Or.inl (Ne.symm hc))]; exact ha
  refine aw_aload_n (q := 90) mX7_note dX7_note_89 rfl rfl ?_
  refine aw_get (t := 2) (ji := 10) (q := 93) mX7_note dX7_note_90 rfl f7_26 rfl kd_32 rfl (ly_32_10 hl) ?_
  refine aw_aload_n (q := 94) mX7_note dX7_note_93 rfl rfl ?_
  refine aw_get (t := 0) (ji := 8) (q := 97) mX7_note dX7_note_94 rfl f7_136 rfl kd_32 rfl e8 ?_
  refine aw_iload_n (q := 98) mX7_note dX7_note_97 rfl rfl ?_
  refine aw_iast (q := 99) mX7_note dX7_note_98 rfl kd_34 (by omega) (by omega) (fun μ_98 e_98 => ?_)
  have hl : Lay n μ_98 := by rw [e_98]; exact Lay.setA la_34 hl
  refine aw_aload_n (q := 100) mX7_note dX7_note_99 rfl rfl ?_
  refine aw_get (t := 2) (ji := 11) (q := 103) mX7_note dX7_note_100 rfl f7_29 rfl kd_32 rfl (ly_32_11 hl) ?_
  refine aw_aload_n (q := 104) mX7_note dX7_note_103 rfl rfl ?_
  refine aw_get (t := 0) (ji := 8) (q := 107) mX7_note dX7_note_104 rfl f7_136 rfl kd_32 rfl (s1 _ _ _ _ _ e_98 (by decide) e8) ?_
  refine aw_iload_n (q := 108) mX7_note dX7_note_107 rfl rfl ?_
  refine aw_iast (q := 109) mX7_note dX7_note_108 rfl kd_35 (by omega) (by omega) (fun μ_108 e_108 => ?_)
  have hl : Lay n μ_108 := by rw [e_108]; exact Lay.setA la_35 hl
  refine aw_aload_n (q := 110) mX7_note dX7_note_109 rfl rfl ?_
  refine aw_get (t := 2) (ji := 12) (q := 113) mX7_note dX7_note_110 rfl f7_32 rfl kd_32 rfl (ly_32_12 hl) ?_
  refine aw_aload_n (q := 114) mX7_note dX7_note_113 rfl rfl ?_
  refine aw_get (t := 0) (ji := 8) (q := 117) mX7_note dX7_note_114 rfl f7_136 rfl kd_32 rfl (s1 _ _ _ _ _ e_108 (by decide) (s1 _ _ _ _ _ e_98 (by decide) e8)) ?_
  refine aw_iload_n (q := 118) mX7_note dX7_note_117 rfl rfl ?_
  refine aw_iast (q := 119) mX7_note dX7_note_118 rfl kd_36 (by omega) (by omega) (fun μ_118 e_118 => ?_)
  have hl : Lay n μ_118 := by rw [e_118]; exact Lay.setA la_36 hl
  refine aw_aload_n (q := 120) mX7_note dX7_note_119 rfl rfl ?_
  refine aw_get (t := 2) (ji := 13) (q := 123) mX7_note dX7_note_120 rfl f7_35 rfl kd_32 rfl (ly_32_13 hl) ?_
  refine aw_aload_n (q := 124) mX7_note dX7_note_123 rfl rfl ?_
  refine aw_get (t := 0) (ji := 8) (q := 127) mX7_note dX7_note_124 rfl f7_136 rfl kd_32 rfl (s1 _ _ _ _ _ e_118 (by decide) (s1 _ _ _ _ _ e_108 (by decide) (s1 _ _ _ _ _ e_98 (by decide) e8))) ?_
  refine aw_iload (q := 129) mX7_note dX7_note_127 rfl rfl ?_
  refine aw_iast (q := 130) mX7_note dX7_note_129 rfl kd_37 (by omega) (by omega) (fun μ_129 e_129 => ?_)
  have hl : Lay n μ_129 := by rw [e_129]; exact Lay.setA la_37 hl
  have e8a : μ_129 32 8 = N := by rw [e_129, am_sn (Or.inl (by decide)), e_118, am_sn (Or.inl (by decide)), e_108, am_sn (Or.inl (by decide)), e_98, am_sn (Or.inl (by decide))]; exact e8
  refine aw_aload_n (q := 131) mX7_note dX7_note_130 rfl rfl ?_
  refine aw_get (t := 2) (ji := 14) (q := 134) mX7_note dX7_note_131 rfl f7_38 rfl kd_32 rfl (ly_32_14 hl) ?_
  refine aw_aload_n (q := 135) mX7_note dX7_note_134 rfl rfl ?_
  refine aw_get (t := 0) (ji := 8) (q := 138) mX7_note dX7_note_135 rfl f7_136 rfl kd_32 rfl e8a ?_
  refine aw_iload (q := 140) mX7_note dX7_note_138 rfl rfl ?_
  refine aw_iast (q := 141) mX7_note dX7_note_140 rfl kd_38 (by omega) (by omega) (fun μ_140 e_140 => ?_)
  have hl : Lay n μ_140 := by rw [e_140]; exact Lay.setA la_38 hl
  refine aw_aload_n (q := 142) mX7_note dX7_note_141 rfl rfl ?_
  refine aw_get (t := 2) (ji := 15) (q := 145) mX7_note dX7_note_142 rfl f7_41 rfl kd_32 rfl (ly_32_15 hl) ?_
  refine aw_aload_n (q := 146) mX7_note dX7_note_145 rfl rfl ?_
  refine aw_get (t := 0) (ji := 8) (q := 149) mX7_note dX7_note_146 rfl f7_136 rfl kd_32 rfl (s1 _ _ _ _ _ e_140 (by decide) e8a) ?_
  refine aw_iconst (q := 150) mX7_note dX7_note_149 rfl rfl ?_
  refine aw_iast (q := 151) mX7_note dX7_note_150 rfl kd_39 (by omega) (by omega) (fun μ_150 e_150 => ?_)
  have hl : Lay n μ_150 := by rw [e_150]; exact Lay.setA la_39 hl
  refine aw_aload_n (q := 152) mX7_note dX7_note_151 rfl rfl ?_
  refine aw_get (t := 2) (ji := 16) (q := 155) mX7_note dX7_note_152 rfl f7_44 rfl kd_32 rfl (ly_32_16 hl) ?_
  refine aw_aload_n (q := 156) mX7_note dX7_note_155 rfl rfl ?_
  refine aw_get (t := 0) (ji := 8) (q := 159) mX7_note dX7_note_156 rfl f7_136 rfl kd_32 rfl (s1 _ _ _ _ _ e_150 (by decide) (s1 _ _ _ _ _ e_140 (by decide) e8a)) ?_
  refine aw_iconst (q := 160) mX7_note dX7_note_159 rfl rfl ?_
  refine aw_iast (q := 161) mX7_note dX7_note_160 rfl kd_40 (by omega) (by omega) (fun μ_160 e_160 => ?_)
  have hl : Lay n μ_160 := by rw [e_160]; exact Lay.setA la_40 hl
  have e8b : μ_160 32 8 = N := by rw [e_160, am_sn (Or.inl (by decide)), e_150, am_sn (Or.inl (by decide)), e_140, am_sn (Or.inl (by decide))]; exact e8a
  refine aw_aload_n (q := 162) mX7_note dX7_note_161 rfl rfl ?_
  refine aw_get (t := 2) (ji := 17) (q := 165) mX7_note dX7_note_162 rfl f7_47 rfl kd_32 rfl (ly_32_17 hl) ?_
  refine aw_aload_n (q := 166) mX7_note dX7_note_165 rfl rfl ?_
  refine aw_get (t := 0) (ji := 8) (q := 169) mX7_note dX7_note_166 rfl f7_136 rfl kd_32 rfl e8b ?_
  refine aw_iconst (q := 170) mX7_note dX7_note_169 rfl rfl ?_
  refine aw_iast (q := 171) mX7_note dX7_note_170 rfl kd_41 (by omega) (by omega) (fun μ_170 e_170 => ?_)
  have hl : Lay n μ_170 := by rw [e_170]; exact Lay.setA la_41 hl
  refine aw_aload_n (q := 172) mX7_note dX7_note_171 rfl rfl ?_
  refine aw_get (t := 2) (ji := 18) (q := 175) mX7_note dX7_note_172 rfl f7_50 rfl kd_32 rfl (ly_32_18 hl) ?_
  refine aw_aload_n (q := 176) mX7_note dX7_note_175 rfl rfl ?_
  refine aw_get (t := 0) (ji := 8) (q := 179) mX7_note dX7_note_176 rfl f7_136 rfl kd_32 rfl (s1 _ _ _ _ _ e_170 (by decide) e8b) ?_
  refine aw_iconst (q := 180) mX7_note dX7_note_179 rfl rfl ?_
  refine aw_iast (q := 181) mX7_note dX7_note_180 rfl kd_42 (by omega) (by omega) (fun μ_180 e_180 => ?_)
  have hl : Lay n μ_180 := by rw [e_180]; exact Lay.setA la_42 hl
  refine aw_aload_n (q := 182) mX7_note dX7_note_181 rfl rfl ?_
  refine aw_get (t := 2) (ji := 19) (q := 185) mX7_note dX7_note_182 rfl f7_53 rfl kd_32 rfl (ly_32_19 hl) ?_
  refine aw_aload_n (q := 186) mX7_note dX7_note_185 rfl rfl ?_
  refine aw_get (t := 0) (ji := 8) (q := 189) mX7_note dX7_note_186 rfl f7_136 rfl kd_32 rfl (s1 _ _ _ _ _ e_180 (by decide) (s1 _ _ _ _ _ e_170 (by decide) e8b)) ?_
  refine aw_iconst (q := 190) mX7_note dX7_note_189 rfl rfl ?_
  refine aw_iast (q := 191) mX7_note dX7_note_190 rfl kd_43 (by omega) (by omega) (fun μ_190 e_190 => ?_)
  have hl : Lay n μ_190 := by rw [e_190]; exact Lay.setA la_43 hl
  have e8c : μ_190 32 8 = N := by rw [e_190, am_sn (Or.inl (by decide)), e_180, am_sn (Or.inl (by decide)), e_170, am_sn (Or.inl (by decide))]; exact e8b
  refine aw_aload_n (q := 192) mX7_note dX7_note_191 rfl rfl ?_
  refine aw_dupr (q := 193) mX7_note dX7_note_192 rfl ?_
  refine aw_get (t := 0) (ji := 8) (q := 196) mX7_note dX7_note_193 rfl f7_136 rfl kd_32 rfl e8c ?_
  refine aw_iconst (q := 197) mX7_note dX7_note_196 rfl rfl ?_
  refine aw_iadd (q := 198) mX7_note dX7_note_197 rfl (by omega) (by omega) ?_
  refine aw_put (t := 0) (ji := 8) (q := 201) mX7_note dX7_note_198 rfl f7_136 rfl kd_32 rfl (Or.inl rfl) (Or.inl (by decide)) (fun μ_198 e_198 => ?_)
  have hl : Lay n μ_198 := by rw [e_198]; exact Lay.setF lf_32_8 hl
  refine aw_aload_n (q := 202) mX7_note dX7_note_201 rfl rfl ?_
  refine aw_v0 (ci := 7) (q := 205) mX7_note dX7_note_202 rfl l7_143 k97_91 rfl kd_32 rfl rfl rfl (pX7_done n1 μ_198) (kset (fun μ4 h4 => ?_))
  have e8d : μ4 32 8 = N + 1 := by rw [h4, am_sn (Or.inr (by decide)), e_198, am_ss]
  refine aw_pop (q := 206) mX7_note dX7_note_205 rfl ?_
  refine aw_aload_n (q := 207) mX7_note dX7_note_206 rfl rfl ?_
  refine aw_get (t := 0) (ji := 8) (q := 210) mX7_note dX7_note_207 rfl f7_136 rfl kd_32 rfl e8d ?_
  refine aw_iconst (q := 211) mX7_note dX7_note_210 rfl rfl ?_
  refine aw_isub (q := 212) mX7_note dX7_note_211 rfl (by omega) (by omega) ?_
  refine aw_iret mX7_note dX7_note_212 ?_
  -- what stands now
  have hOm : Of (fun a j => (34 ≤ a ∧ a ≤ 43 ∧ j = N) ∨ (a = 32 ∧ (j = 8 ∨ j = 21))) μ3 μ4 := by
    rw [h4, e_198, e_190, e_180, e_170, e_160, e_150, e_140, e_129, e_118, e_108, e_98]
    exact (((((((((((Of.rf.set (by omega)).set (by omega)).set (by omega)).set (by omega)).set (by omega)).set (by omega)).set (by omega)).set (by omega)).set (by omega)).set (by omega)).set (by omega)).set (by omega)
  have hO : Of (fun a j => Snw n N a j ∨ (a = 32 ∧ (j = 0 ∨ j = 1 ∨ j = 8 ∨ j = 21)) ∨ (34 ≤ a ∧ a ≤ 43 ∧ j = N)) μ μ4 := (hO7.mono (fun a j z => z.elim Or.inl (fun z => Or.inr (Or.inl ⟨z.1, by omega⟩)))).tr (hOm.mono (fun a j z => Or.inr (by omega)))
  have w1 : ∀ a j, ¬ (34 ≤ a ∧ a ≤ 43) → a ≠ 32 → μ4 a j = μ1 a j := fun a j q1 q2 => by rw [hOm a j (by omega), e_7, am_sn (Or.inl q2), e_2, am_sn (Or.inl q2)]
  have v34 : μ4 34 N = l := by rw [h4, e_198, e_190, e_180, e_170, e_160, e_150, e_140, e_129, e_118, e_108, e_98]; repeat (first | rw [am_sn (Or.inl (by decide))] | rw [am_sn (Or.inr (by decide))] | rw [am_ss])
  have v35 : μ4 35 N = h := by rw [h4, e_198, e_190, e_180, e_170, e_160, e_150, e_140, e_129, e_118, e_108, e_98]; repeat (first | rw [am_sn (Or.inl (by decide))] | rw [am_sn (Or.inr (by decide))] | rw [am_ss])
  have v36 : μ4 36 N = w := by rw [h4, e_198, e_190, e_180, e_170, e_160, e_150, e_140, e_129, e_118, e_108, e_98]; repeat (first | rw [am_sn (Or.inl (by decide))] | rw [am_sn (Or.inr (by decide))] | rw [am_ss])
  have v37 : μ4 37 N = s := by rw [h4, e_198, e_190, e_180, e_170, e_160, e_150, e_140, e_129, e_118, e_108, e_98]; repeat (first | rw [am_sn (Or.inl (by decide))] | rw [am_sn (Or.inr (by decide))] | rw [am_ss])
  have v38 : μ4 38 N = y := by rw [h4, e_198, e_190, e_180, e_170, e_160, e_150, e_140, e_129, e_118, e_108, e_98]; repeat (first | rw [am_sn (Or.inl (by decide))] | rw [am_sn (Or.inr (by decide))] | rw [am_ss])
  have v39 : μ4 39 N = 0 := by rw [h4, e_198, e_190, e_180, e_170, e_160, e_150, e_140, e_129, e_118, e_108, e_98]; repeat (first | rw [am_sn (Or.inl (by decide))] | rw [am_sn (Or.inr (by decide))] | rw [am_ss])
  have v40 : μ4 40 N = 0 := by rw [h4, e_198, e_190, e_180, e_170, e_160, e_150, e_140, e_129, e_118, e_108, e_98]; repeat (first | rw [am_sn (Or.inl (by decide))] | rw [am_sn (Or.inr (by decide))] | rw [am_ss])
  have v41 : μ4 41 N = 0 := by rw [h4, e_198, e_190, e_180, e_170, e_160, e_150, e_140, e_129, e_118, e_108, e_98]; repeat (first | rw [am_sn (Or.inl (by decide))] | rw [am_sn (Or.inr (by decide))] | rw [am_ss])
  have v42 : μ4 42 N = -1 := by rw [h4, e_198, e_190, e_180, e_170, e_160, e_150, e_140, e_129, e_118, e_108, e_98]; repeat (first | rw [am_sn (Or.inl (by decide))] | rw [am_sn (Or.inr (by decide))] | rw [am_ss])
  have v43 : μ4 43 N = -1 := by rw [h4, e_198, e_190, e_180, e_170, e_160, e_150, e_140, e_129, e_118, e_108, e_98]; repeat (first | rw [am_sn (Or.inl (by decide))] | rw [am_sn (Or.inr (by decide))] | rw [am_ss])
  have v21 : μ4 32 21 = 0 := by rw [h4, am_ss]
  have v45 : μ4 4 5 = 1 := by rw [w1 4 5 (by omega) (by omega)]; exact o4
  have vs : μ4 0 2 = μ4 32 0 := by rw [w1 0 2 (by omega) (by omega), o5, hOm 32 0 (by omega), e_7, am_ss]
  have hnN : nf N = (n : Int) := by unfold nf; omega
  have kb : ∀ j, 2 ≤ j → j ≤ 7 → μ4 32 j = μ 32 j := fun j _ _ => hO 32 j (by unfold Snw; omega)
  have kc : ∀ j, 2 ≤ j → j ≤ 8 → j ≠ 3 → μ4 1 j = μ 1 j := fun j _ _ _ => hO 1 j (by unfold Snw; omega)
  have kk : ∀ k, 0 ≤ k → k < N → (∀ a, 34 ≤ a → a ≤ 43 → μ4 a k = μ a k) ∧ (∀ c, 0 ≤ c → c < 3 → μ4 44 (3 * k + c) = μ 44 (3 * k + c)) ∧ (∀ j, 0 ≤ j → j ≤ 10 → μ4 (nf k) j = μ (nf k) j) ∧ ∀ c, 0 ≤ c → c < 3 → μ4 (nf k + 1) c = μ (nf k + 1) c := fun k k0 k1 => ⟨fun a _ _ => hO a k (by unfold Snw; omega), fun c _ _ => hO 44 _ (by unfold Snw; omega), fun j _ _ => hO _ j (by unfold Snw nf; omega), fun c _ _ => hO _ c (by unfold Snw nf; omega)⟩
  refine ⟨by rw [hx]; congr 2; omega, ?_, ⟨by rw [kb 2 (by decide) (by decide)]; exact b1, by rw [kb 3 (by decide) (by decide)]; exact b2, by rw [kb 4 (by decide) (by decide)]; exact b3, by rw [kb 5 (by decide) (by decide)]; exact b4, by rw [kb 6 (by decide) (by decide)]; exact b5, by rw [kb 7 (by decide) (by decide)]; exact b6, by rw [e8d]; omega, fun l' l0 l1 => by rw [kb 7 (by decide) (by decide)] at l1; rw [hO 33 l' (by unfold Snw; omega)]; exact b8 l' l0 l1, fun k k0 k1 => ?_⟩, ⟨by rw [e8d, hn]; omega, ⟨by rw [kc 2 (by decide) (by decide) (by decide), kb 7 (by decide) (by decide)]; exact c2, by rw [w1 1 3 (by omega) (by omega), o3, e8d], by rw [kc 4 (by decide) (by decide) (by decide), kb 2 (by decide) (by decide)]; exact c4, by rw [kc 5 (by decide) (by decide) (by decide), kb 3 (by decide) (by decide)]; exact c5, by rw [kc 6 (by decide) (by decide) (by decide), kb 4 (by decide) (by decide)]; exact c6, by rw [kc 7 (by decide) (by decide) (by decide), kb 5 (by decide) (by decide)]; exact c7, by rw [kc 8 (by decide) (by decide) (by decide), kb 6 (by decide) (by decide)]; exact c8⟩, fun l' l0 l1 => by rw [kb 7 (by decide) (by decide)] at l1; rw [hO 33 l' (by unfold Snw; omega), hO 2 l' (by unfold Snw; omega)]; exact ch l' l0 l1, fun k k0 k1 => ?_⟩, fun k k0 k1 => ?_, vs, J.unset v21, J.stale v45⟩
  · refine ⟨fun q hq => ?_, fun a a1 a2 a3 => ?_⟩
    · have h1' := List.all_eq_true.mp am_layWk3 q hq
      simp only [Bool.and_eq_true, Bool.not_eq_true', decide_eq_false_iff_not, decide_eq_true_eq] at h1'
      rw [hO q.1 q.2.1 (by unfold Snw; omega)]
      exact hJ.1.1 q hq
    · rw [hn] at a2
      by_cases hane : a < (n : Int)
      · rw [hO a 4 (by unfold Snw; omega)]; exact hJ.1.2 a a1 hane a3
      · have : a = (n : Int) := by omega
        rw [this, w1 _ _ (by omega) (by omega)]; exact f4
  · by_cases hkN : k = N
    · rw [hkN]
      unfold Nb
      rw [v34, v35, v36, v37, v38, v39, v40, v41, v42, kb 7 (by decide) (by decide)]
      exact ⟨hll, hok.1, hok.2.1, hok.2.2.1, hok.2.2.2, by omega, by omega, by omega, by omega, trivial, fun c z0 z1 => by omega, fun z => by omega⟩
    · obtain ⟨t1, t2, t3, t4⟩ := kk k k0 (by omega)
      exact (b9 k k0 (by omega)).at (by rw [kb 7 (by decide) (by decide)]; omega) (fun a a0 a1 => t1 a a0 (by omega)) t2
  · by_cases hkN : k = N
    · rw [hkN]
      refine ⟨by rw [w1 3 N (by omega) (by omega), o2, hnN], ?_⟩
      unfold Nm
      rw [hnN, v34, v35, v36, v37, v38, v39, v40, v41, v42, v43]
      have wn : ∀ j, μ4 (n : Int) j = μ1 (n : Int) j := fun j => w1 _ j (by omega) (by omega)
      rw [wn, wn, wn, wn, wn, wn, wn, wn, wn, wn]
      exact ⟨f0, f1, f2, f3, f5, f6, f7, by omega, f9, f10, fun c z0 z1 => by omega⟩
    · obtain ⟨t1, t2, t3, t4⟩ := kk k k0 (by omega)
      have hk8 : k < μ 32 8 := by omega
      rw [hO 3 k (by unfold Snw; omega)]
      exact ⟨(ck k k0 hk8).1, (ck k k0 hk8).2.at (b9 k k0 hk8).2.2.2.2.2.2.2.1.2 t1 t2 t3 t4⟩
  · rw [kb 7 (by decide) (by decide)]
    by_cases hkN : k = N
    · rw [hkN, v43]; omega
    · rw [(kk k k0 (by omega)).1 43 (by decide) (by decide)]
      exact hD k k0 (by omega)

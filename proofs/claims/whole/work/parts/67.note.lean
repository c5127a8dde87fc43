/-! calls that tell of a note: cut, note -/
/-- a cut put in its place: what the places hold behind it -/
def Ic (f g : Int → Int) (n at' : Int) : Prop := ∃ s, (0 ≤ s ∧ s ≤ n) ∧ (s = 0 ∨ at' ≤ f (s - 1)) ∧ (∀ c, s ≤ c → c < n → f c < at') ∧ (∀ c, 0 ≤ c → c < s → g c = f c) ∧ g s = at' ∧ ∀ c, s ≤ c → c < n → g (c + 1) = f c
theorem Ic.uniq {f g h : Int → Int} {n at' : Int} (h1 : Ic f g n at') (h2 : Ic f h n at') : ∀ c, 0 ≤ c → c ≤ n → g c = h c := by
  obtain ⟨s, s1, s2, s3, s4, s5, s6⟩ := h1
  obtain ⟨t, t1, t2, t3, t4, t5, t6⟩ := h2
  have hst : s = t := by
    rcases Int.lt_or_le s t with c | c
    · rcases t2 with t2 | t2
      · omega
      · have := s3 (t - 1) (by omega) (by omega); omega
    · rcases Int.lt_or_le t s with c' | c'
      · rcases s2 with s2 | s2
        · omega
        · have := t3 (s - 1) (by omega) (by omega); omega
      · omega
  subst hst
  intro c c0 c1
  rcases Int.lt_or_le c s with q | q
  · rw [s4 c c0 q, t4 c c0 q]
  · by_cases hc : c = s
    · rw [hc, s5, t5]
    · have a1 := s6 (c - 1) (by omega) (by omega)
      have a2 := t6 (c - 1) (by omega) (by omega)
      rw [show c - 1 + 1 = c by omega] at a1 a2
      rw [a1, a2]
theorem pX3_hasCut (n : Nat) (μ : am_M) (a t : Int) (hl : Lay n μ) (ha : Nr n a) (h5 : 0 ≤ μ a 5 ∧ μ a 5 ≤ 3) : AC 35 [(2, a), (0, t)] n μ (PB (∃ c, (0 ≤ c ∧ c < μ a 5) ∧ μ (a + 1) c = t) n μ) := by
  have hk_a := ha.k
  have hk2_a := ha.c
  have hc_a := ha.l hl
  have F : ∀ (d : Nat) (i : Int), 0 ≤ i → i + d = μ a 5 → (∀ c, 0 ≤ c → c < i → μ (a + 1) c ≠ t) → AW none 35 2 [(2, a), (0, t), (0, i)] [] n μ (PB (∃ c, (0 ≤ c ∧ c < μ a 5) ∧ μ (a + 1) c = t) n μ) := by
    intro d
    induction d with
    | zero =>
      intro i i0 id hno
      refine aw_iload_n (q := 3) mX3_hasCut dX3_hasCut_2 rfl rfl ?_
      refine aw_aload_n (q := 4) mX3_hasCut dX3_hasCut_3 rfl rfl ?_
      refine aw_get (t := 0) (ji := 5) (q := 7) mX3_hasCut dX3_hasCut_4 rfl f3_40 rfl hk_a rfl rfl ?_
      refine aw_icmp_ge (tgt := 28) (q := 10) mX3_hasCut dX3_hasCut_7 rfl (by decide) (fun c_7 => ?_) (fun c_7 => ?_)
      · refine aw_iconst (q := 29) mX3_hasCut dX3_hasCut_28 rfl rfl ?_
        refine aw_zret mX3_hasCut dX3_hasCut_29 (by first | exact Or.inl rfl | exact Or.inr rfl | assumption | omega) ?_
        exact ⟨0, rfl, rfl, rfl, Or.inr ⟨rfl, fun ⟨c, z1, z2⟩ => hno c z1.1 (by omega) z2⟩⟩
      · exact absurd c_7 (by omega)
    | succ d ih =>
      intro i i0 id hno
      refine aw_iload_n (q := 3) mX3_hasCut dX3_hasCut_2 rfl rfl ?_
      refine aw_aload_n (q := 4) mX3_hasCut dX3_hasCut_3 rfl rfl ?_
      refine aw_get (t := 0) (ji := 5) (q := 7) mX3_hasCut dX3_hasCut_4 rfl f3_40 rfl hk_a rfl rfl ?_
      refine aw_icmp_ge (tgt := 28) (q := 10) mX3_hasCut dX3_hasCut_7 rfl (by decide) (fun c_7 => ?_) (fun c_7 => ?_)
      · exact absurd c_7 (by omega)
      · refine aw_aload_n (q := 11) mX3_hasCut dX3_hasCut_10 rfl rfl ?_
        refine aw_get (t := 2) (ji := 4) (q := 14) mX3_hasCut dX3_hasCut_11 rfl f3_9 rfl hk_a rfl hc_a ?_
        refine aw_iload_n (q := 15) mX3_hasCut dX3_hasCut_14 rfl rfl ?_
        refine aw_iald (q := 16) mX3_hasCut dX3_hasCut_15 rfl hk2_a (by omega) (by show i < 3; omega) rfl ?_
        refine aw_iload_n (q := 17) mX3_hasCut dX3_hasCut_16 rfl rfl ?_
        refine aw_icmp_ne (tgt := 22) (q := 20) mX3_hasCut dX3_hasCut_17 rfl (by decide) (fun c_17 => ?_) (fun c_17 => ?_)
        · refine aw_iinc (q := 25) mX3_hasCut dX3_hasCut_22 rfl rfl (by decide) (by omega) (by omega) rfl ?_
          refine aw_goto (q := 2) mX3_hasCut dX3_hasCut_25 (by decide) ?_
          refine ih (i + 1) (by omega) (by omega) (fun c z0 z1 => ?_)
          by_cases hc : c = i
          · rw [hc]; exact c_17
          · exact hno c z0 (by omega)
        · refine aw_iconst (q := 21) mX3_hasCut dX3_hasCut_20 rfl rfl ?_
          refine aw_zret mX3_hasCut dX3_hasCut_21 (by first | exact Or.inl rfl | exact Or.inr rfl | assumption | omega) ?_
          exact ⟨1, rfl, rfl, rfl, Or.inl ⟨rfl, i, by omega, Decidable.not_not.mp c_17⟩⟩
  refine AC.of rfl ?_
  refine aw_iconst (q := 1) mX3_hasCut dX3_hasCut_0 rfl rfl ?_
  refine aw_istore_n (q := 2) mX3_hasCut dX3_hasCut_1 rfl (by decide) rfl ?_
  exact F (μ a 5).toNat 0 (by decide) (by omega) (fun c z0 z1 => by omega)
theorem pX3_addCut (n : Nat) (μ : am_M) (a t : Int) (hl0 : Lay n μ) (ha : Nr n a) (h5 : 0 ≤ μ a 5 ∧ μ a 5 < 3) : AC 36 [(2, a), (0, t)] n μ (PV n (fun μ' => Of (fun b j => b = a + 1 ∨ (b = a ∧ j = 5)) μ μ' ∧ μ' a 5 = μ a 5 + 1 ∧ Ic (μ (a + 1)) (μ' (a + 1)) (μ a 5) t)) := by
  have hk_a := ha.k
  have hk2_a := ha.c
  have hg_a := ha.1
  have hev_a : a % 2 = 0 := ha.2.2
  obtain ⟨N, hN⟩ : ∃ N, N = μ a 5 := ⟨_, rfl⟩
  rw [← hN] at h5 ⊢
  have F : ∀ (d : Nat) (μ1 : am_M), (d : Int) ≤ N → Of (fun b j => b = a + 1 ∨ (b = a ∧ j = 5)) μ μ1 → μ1 a 5 = N → (∀ c, 0 ≤ c → c < (d : Int) → μ1 (a + 1) c = μ (a + 1) c) → (∀ c, (d : Int) ≤ c → c < N → μ (a + 1) c < t ∧ μ1 (a + 1) (c + 1) = μ (a + 1) c) → Lay n μ1 → AW none 36 18 [(2, a), (0, t), (0, (d : Int))] [] n μ1 (PV n (fun μ' => Of (fun b j => b = a + 1 ∨ (b = a ∧ j = 5)) μ μ' ∧ μ' a 5 = N + 1 ∧ Ic (μ (a + 1)) (μ' (a + 1)) N t)) := by
    intro d
    induction d with
    | zero =>
      intro μ1 hd hO h51 hlo hhi hl
      have hc_a := ha.l hl
      refine aw_iload_n (q := 19) mX3_addCut dX3_addCut_18 rfl rfl ?_
      refine aw_if_le (tgt := 54) (q := 22) mX3_addCut dX3_addCut_19 rfl (by decide) (fun c_19 => ?_) (fun c_19 => ?_)
      · refine aw_aload_n (q := 55) mX3_addCut dX3_addCut_54 rfl rfl ?_
        refine aw_get (t := 2) (ji := 4) (q := 58) mX3_addCut dX3_addCut_55 rfl f3_9 rfl hk_a rfl hc_a ?_
        refine aw_iload_n (q := 59) mX3_addCut dX3_addCut_58 rfl rfl ?_
        refine aw_iload_n (q := 60) mX3_addCut dX3_addCut_59 rfl rfl ?_
        refine aw_iast (q := 61) mX3_addCut dX3_addCut_60 rfl hk2_a (by omega) (by show ((0 : Nat) : Int) < 3; omega) (fun μ_60 e_60 => ?_)
        have hl : Lay n μ_60 := by rw [e_60]; exact Lay.setN (by omega) (fun z => absurd z (by omega)) hl
        refine aw_aload_n (q := 62) mX3_addCut dX3_addCut_61 rfl rfl ?_
        refine aw_dupr (q := 63) mX3_addCut dX3_addCut_62 rfl ?_
        refine aw_get (t := 0) (ji := 5) (q := 66) mX3_addCut dX3_addCut_63 rfl f3_40 rfl hk_a rfl (rd_sn e_60 (Or.inl (by omega)) h51) ?_
        refine aw_iconst (q := 67) mX3_addCut dX3_addCut_66 rfl rfl ?_
        refine aw_iadd (q := 68) mX3_addCut dX3_addCut_67 rfl (by omega) (by omega) ?_
        refine aw_put (t := 0) (ji := 5) (q := 71) mX3_addCut dX3_addCut_68 rfl f3_40 rfl hk_a rfl (Or.inl rfl) (Or.inl (by decide)) (fun μ_68 e_68 => ?_)
        have hl : Lay n μ_68 := by rw [e_68]; exact Lay.setN hg_a (fun _ => by decide) hl
        refine aw_vret mX3_addCut dX3_addCut_71 ?_
        refine ⟨rfl, rfl, by rw [e_68, e_60]; exact (hO.set (Or.inl rfl)).set (Or.inr ⟨rfl, rfl⟩), by rw [e_68, am_ss], 0, by omega, Or.inl rfl, fun c z0 z1 => (hhi c (by omega) z1).1, fun c z0 z1 => by omega, ?_, fun c z0 z1 => ?_⟩
        · rw [e_68, am_sn (Or.inl (by omega)), e_60]; exact am_ss
        · rw [e_68, am_sn (Or.inl (by omega)), e_60, am_sn (Or.inr (by omega))]
          exact (hhi c (by omega) z1).2
      · exact absurd c_19 (by omega)
    | succ d ih =>
      intro μ1 hd hO h51 hlo hhi hl
      have hc_a := ha.l hl
      have hr : μ1 (a + 1) (((d + 1 : Nat) : Int) - 1) = μ (a + 1) (d : Int) := by
        rw [show ((d + 1 : Nat) : Int) - 1 = (d : Int) by omega]
        exact hlo _ (by omega) (by omega)
      refine aw_iload_n (q := 19) mX3_addCut dX3_addCut_18 rfl rfl ?_
      refine aw_if_le (tgt := 54) (q := 22) mX3_addCut dX3_addCut_19 rfl (by decide) (fun c_19 => ?_) (fun c_19 => ?_)
      · exact absurd c_19 (by omega)
      · refine aw_aload_n (q := 23) mX3_addCut dX3_addCut_22 rfl rfl ?_
        refine aw_get (t := 2) (ji := 4) (q := 26) mX3_addCut dX3_addCut_23 rfl f3_9 rfl hk_a rfl hc_a ?_
        refine aw_iload_n (q := 27) mX3_addCut dX3_addCut_26 rfl rfl ?_
        refine aw_iconst (q := 28) mX3_addCut dX3_addCut_27 rfl rfl ?_
        refine aw_isub (q := 29) mX3_addCut dX3_addCut_28 rfl (by omega) (by omega) ?_
        refine aw_iald (q := 30) mX3_addCut dX3_addCut_29 rfl hk2_a (by omega) (by show ((d + 1 : Nat) : Int) - 1 < 3; omega) hr ?_
        refine aw_iload_n (q := 31) mX3_addCut dX3_addCut_30 rfl rfl ?_
        refine aw_icmp_ge (tgt := 54) (q := 34) mX3_addCut dX3_addCut_31 rfl (by decide) (fun c_31 => ?_) (fun c_31 => ?_)
        · refine aw_aload_n (q := 55) mX3_addCut dX3_addCut_54 rfl rfl ?_
          refine aw_get (t := 2) (ji := 4) (q := 58) mX3_addCut dX3_addCut_55 rfl f3_9 rfl hk_a rfl hc_a ?_
          refine aw_iload_n (q := 59) mX3_addCut dX3_addCut_58 rfl rfl ?_
          refine aw_iload_n (q := 60) mX3_addCut dX3_addCut_59 rfl rfl ?_
          refine aw_iast (q := 61) mX3_addCut dX3_addCut_60 rfl hk2_a (by omega) (by show ((d + 1 : Nat) : Int) < 3; omega) (fun μ_60 e_60 => ?_)
          have hl : Lay n μ_60 := by rw [e_60]; exact Lay.setN (by omega) (fun z => absurd z (by omega)) hl
          refine aw_aload_n (q := 62) mX3_addCut dX3_addCut_61 rfl rfl ?_
          refine aw_dupr (q := 63) mX3_addCut dX3_addCut_62 rfl ?_
          refine aw_get (t := 0) (ji := 5) (q := 66) mX3_addCut dX3_addCut_63 rfl f3_40 rfl hk_a rfl (rd_sn e_60 (Or.inl (by omega)) h51) ?_
          refine aw_iconst (q := 67) mX3_addCut dX3_addCut_66 rfl rfl ?_
          refine aw_iadd (q := 68) mX3_addCut dX3_addCut_67 rfl (by omega) (by omega) ?_
          refine aw_put (t := 0) (ji := 5) (q := 71) mX3_addCut dX3_addCut_68 rfl f3_40 rfl hk_a rfl (Or.inl rfl) (Or.inl (by decide)) (fun μ_68 e_68 => ?_)
          have hl : Lay n μ_68 := by rw [e_68]; exact Lay.setN hg_a (fun _ => by decide) hl
          refine aw_vret mX3_addCut dX3_addCut_71 ?_
          refine ⟨rfl, rfl, by rw [e_68, e_60]; exact (hO.set (Or.inl rfl)).set (Or.inr ⟨rfl, rfl⟩), by rw [e_68, am_ss], ((d + 1 : Nat) : Int), by omega, Or.inr ?_, fun c z0 z1 => (hhi c z0 z1).1, fun c z0 z1 => ?_, ?_, fun c z0 z1 => ?_⟩
          · rw [show ((d + 1 : Nat) : Int) - 1 = (d : Int) by omega]; omega
          · rw [e_68, am_sn (Or.inl (by omega)), e_60, am_sn (Or.inr (by omega))]; exact hlo c z0 z1
          · rw [e_68, am_sn (Or.inl (by omega)), e_60, am_ss]
          · rw [e_68, am_sn (Or.inl (by omega)), e_60, am_sn (Or.inr (by omega))]; exact (hhi c z0 z1).2
        · refine aw_aload_n (q := 35) mX3_addCut dX3_addCut_34 rfl rfl ?_
          refine aw_get (t := 2) (ji := 4) (q := 38) mX3_addCut dX3_addCut_35 rfl f3_9 rfl hk_a rfl hc_a ?_
          refine aw_iload_n (q := 39) mX3_addCut dX3_addCut_38 rfl rfl ?_
          refine aw_aload_n (q := 40) mX3_addCut dX3_addCut_39 rfl rfl ?_
          refine aw_get (t := 2) (ji := 4) (q := 43) mX3_addCut dX3_addCut_40 rfl f3_9 rfl hk_a rfl hc_a ?_
          refine aw_iload_n (q := 44) mX3_addCut dX3_addCut_43 rfl rfl ?_
          refine aw_iconst (q := 45) mX3_addCut dX3_addCut_44 rfl rfl ?_
          refine aw_isub (q := 46) mX3_addCut dX3_addCut_45 rfl (by omega) (by omega) ?_
          refine aw_iald (q := 47) mX3_addCut dX3_addCut_46 rfl hk2_a (by omega) (by show ((d + 1 : Nat) : Int) - 1 < 3; omega) hr ?_
          refine aw_iast (q := 48) mX3_addCut dX3_addCut_47 rfl hk2_a (by omega) (by show ((d + 1 : Nat) : Int) < 3; omega) (fun μ_47 e_47 => ?_)
          have hl : Lay n μ_47 := by rw [e_47]; exact Lay.setN (by omega) (fun z => absurd z (by omega)) hl
          refine aw_iinc (q := 51) mX3_addCut dX3_addCut_48 rfl rfl (by decide) (by omega) (by omega) rfl ?_
          refine aw_goto (q := 18) mX3_addCut dX3_addCut_51 (by decide) ?_
          rw [show ((d + 1 : Nat) : Int) + -1 = (d : Int) by omega]
          refine ih μ_47 (by omega) (by rw [e_47]; exact hO.set (Or.inl rfl)) (by rw [e_47, am_sn (Or.inl (by omega))]; exact h51) (fun c z0 z1 => by rw [e_47, am_sn (Or.inr (by omega))]; exact hlo c z0 (by omega)) (fun c z0 z1 => ?_) hl
          by_cases hc : c = (d : Int)
          · rw [hc, e_47, show (d : Int) + 1 = ((d + 1 : Nat) : Int) by omega, am_ss]
            exact ⟨by omega, rfl⟩
          · rw [e_47, am_sn (Or.inr (by omega))]
            exact hhi c (by omega) z1
  have hl := hl0
  have hc_a := ha.l hl
  refine AC.of rfl ?_
  refine aw_aload_n (q := 1) mX3_addCut dX3_addCut_0 rfl rfl ?_
  refine aw_get (t := 0) (ji := 5) (q := 4) mX3_addCut dX3_addCut_1 rfl f3_40 rfl hk_a rfl hN.symm ?_
  refine aw_aload_n (q := 5) mX3_addCut dX3_addCut_4 rfl rfl ?_
  refine aw_get (t := 2) (ji := 4) (q := 8) mX3_addCut dX3_addCut_5 rfl f3_9 rfl hk_a rfl hc_a ?_
  refine aw_alen (zi := 3) (q := 9) mX3_addCut dX3_addCut_8 rfl hk2_a (by decide) rfl ?_
  refine aw_icmp_lt (tgt := 13) (q := 12) mX3_addCut dX3_addCut_9 rfl (by decide) (fun c_9 => ?_) (fun c_9 => ?_)
  · refine aw_aload_n (q := 14) mX3_addCut dX3_addCut_13 rfl rfl ?_
    refine aw_get (t := 0) (ji := 5) (q := 17) mX3_addCut dX3_addCut_14 rfl f3_40 rfl hk_a rfl hN.symm ?_
    refine aw_istore_n (q := 18) mX3_addCut dX3_addCut_17 rfl (by decide) rfl ?_
    have h9 := F N.toNat μ (by omega) Of.rf hN.symm (fun c _ _ => rfl) (fun c z0 z1 => by omega) hl0
    rw [show ((N.toNat : Nat) : Int) = N by omega] at h9
    exact h9
  · exact absurd c_9 (by show ¬ ¬ N < 3; omega)
theorem Ic.cg {f f' g : Int → Int} {n t : Int} (h : Ic f g n t) (hf : ∀ c, 0 ≤ c → c < n → f' c = f c) : Ic f' g n t := by
  obtain ⟨s, s1, s2, s3, s4, s5, s6⟩ := h
  refine ⟨s, s1, ?_, fun c z0 z1 => by rw [hf c (by omega) z1]; exact s3 c z0 z1, fun c z0 z1 => by rw [hf c z0 (by omega)]; exact s4 c z0 z1, s5, fun c z0 z1 => by rw [hf c (by omega) z1]; exact s6 c z0 z1⟩
  rcases s2 with s2 | s2
  · exact Or.inl s2
  · by_cases hs : s = 0
    · exact Or.inl hs
    · right; rw [hf (s - 1) (by omega) (by omega)]; exact s2
theorem Ic.val {f g : Int → Int} {n t : Int} (h : Ic f g n t) {c : Int} (c0 : 0 ≤ c) (c1 : c ≤ n) : g c = t ∨ ∃ c', (0 ≤ c' ∧ c' < n) ∧ g c = f c' := by
  obtain ⟨s, s1, s2, s3, s4, s5, s6⟩ := h
  rcases Int.lt_or_le c s with q | q
  · exact Or.inr ⟨c, by omega, s4 c c0 q⟩
  · by_cases hc : c = s
    · left; rw [hc]; exact s5
    · right
      have := s6 (c - 1) (by omega) (by omega)
      rw [show c - 1 + 1 = c by omega] at this
      exact ⟨c - 1, by omega, this⟩
def hasc (μ : am_M) (k t : Int) : Prop := ∃ c, (0 ≤ c ∧ c < μ 41 k) ∧ μ 44 (3 * k + c) = t
noncomputable def w_ct (μ : am_M) (k t : Int) : Int := if 0 ≤ k ∧ k < μ 32 8 then (if 1 ≤ t ∧ t < μ 35 k then (if μ 41 k < 3 then (@ite Int (hasc μ k t) (Classical.propDecidable _) 4 (if μ 39 k ≤ 0 then 0 else 7)) else 3) else 2) else 1
theorem w_ct1 {μ : am_M} {k t : Int} (h : ¬ (0 ≤ k ∧ k < μ 32 8)) : w_ct μ k t = 1 := by unfold w_ct; rw [if_neg h]
theorem w_ct2 {μ : am_M} {k t : Int} (h : 0 ≤ k ∧ k < μ 32 8) (h2 : ¬ (1 ≤ t ∧ t < μ 35 k)) : w_ct μ k t = 2 := by unfold w_ct; rw [if_pos h, if_neg h2]
theorem w_ct3 {μ : am_M} {k t : Int} (h : 0 ≤ k ∧ k < μ 32 8) (h2 : 1 ≤ t ∧ t < μ 35 k) (h3 : ¬ μ 41 k < 3) : w_ct μ k t = 3 := by unfold w_ct; rw [if_pos h, if_pos h2, if_neg h3]
theorem w_ct4 {μ : am_M} {k t : Int} (h : 0 ≤ k ∧ k < μ 32 8) (h2 : 1 ≤ t ∧ t < μ 35 k) (h3 : μ 41 k < 3) (h4 : hasc μ k t) : w_ct μ k t = 4 := by unfold w_ct; rw [if_pos h, if_pos h2, if_pos h3, if_pos h4]
theorem w_ct7 {μ : am_M} {k t : Int} (h : 0 ≤ k ∧ k < μ 32 8) (h2 : 1 ≤ t ∧ t < μ 35 k) (h3 : μ 41 k < 3) (h4 : ¬ hasc μ k t) (h5 : ¬ μ 39 k ≤ 0) : w_ct μ k t = 7 := by unfold w_ct; rw [if_pos h, if_pos h2, if_pos h3, if_neg h4, if_neg h5]
theorem w_ct0 {μ : am_M} {k t : Int} (h : 0 ≤ k ∧ k < μ 32 8) (h2 : 1 ≤ t ∧ t < μ 35 k) (h3 : μ 41 k < 3) (h4 : ¬ hasc μ k t) (h5 : μ 39 k ≤ 0) : w_ct μ k t = 0 := by unfold w_ct; rw [if_pos h, if_pos h2, if_pos h3, if_neg h4, if_pos h5]
def Sct (k a j : Int) : Prop := a = nf k + 1 ∨ (a = nf k ∧ j = 5) ∨ (a = 4 ∧ j = 5) ∨ (a = 0 ∧ j = 2)
theorem tX6_cut {n : Nat} {μ : am_M} (k t : Int) (hJ : J n μ) : AC 56 [(2, 0), (0, k), (0, t)] n μ (fun r n1 μ1 => ∃ x, r = some (0, x) ∧ n1 = n ∧ (Cr μ (w_ct μ k t) (-1) x μ1 ∨ (w_ct μ k t = 0 ∧ x = μ 41 k + 1 ∧ Of (Sct k) μ μ1 ∧ μ1 (nf k) 5 = μ 41 k + 1 ∧ Ic (μ (nf k + 1)) (μ1 (nf k + 1)) (μ 41 k) t ∧ μ1 4 5 = 1 ∧ μ1 0 2 = 0))) := by
  obtain ⟨hl, hB, hC, hD, hs, hM, hP⟩ := id hJ
  refine AC.of rfl ?_
  refine aw_aload_n (q := 1) mX6_cut dX6_cut_0 rfl rfl ?_
  refine aw_get (t := 2) (ji := 0) (q := 4) mX6_cut dX6_cut_1 rfl f6_12 rfl kd_0 rfl (ly_0_0 hl) ?_
  refine aw_iload_n (q := 5) mX6_cut dX6_cut_4 rfl rfl ?_
  refine aw_v1 (ci := 0) (q := 8) mX6_cut dX6_cut_5 rfl l6_85 k56_4 rfl kd_1 rfl rfl rfl (pX0_find n μ k hl hB hC) (kref (fun a ha => ?_))
  rcases ha with ⟨ha, k0, k1⟩ | ⟨ha, hn⟩
  · obtain ⟨hN, hm, hr, hD1, h24⟩ := JNb hJ k0 k1
    obtain ⟨m0, m1, m2, m3, m5, m6, m7, m8, m9, m10, mc⟩ := hm
    obtain ⟨-, n2, n3, n4, n5, n6, n7, n8, n9, -⟩ := id hN
    have hkk : 0 ≤ k ∧ k < μ 32 8 := ⟨k0, k1⟩
    rw [← ha] at hr m0 m1 m2 m3 m5 m6 m7 m8 m9 m10 mc ⊢
    have hk_a := hr.k
    have hg_a := hr.1
    have hge := hr.2.2
    have hhc : (∃ c, (0 ≤ c ∧ c < μ a 5) ∧ μ (a + 1) c = t) ↔ hasc μ k t := by
      rw [m5]
      constructor
      · rintro ⟨c, c0, c1⟩; exact ⟨c, c0, by rw [← mc c c0.1 c0.2]; exact c1⟩
      · rintro ⟨c, c0, c1⟩; exact ⟨c, c0, by rw [mc c c0.1 c0.2]; exact c1⟩
    have hcc := pX3_hasCut n μ a t hl hr (by rw [m5]; exact n8)
    rw [hhc] at hcc
    refine aw_astore_n (q := 9) mX6_cut dX6_cut_8 rfl (by decide) rfl ?_
    refine aw_aload_n (q := 10) mX6_cut dX6_cut_9 rfl rfl ?_
    refine aw_ifnonnull (tgt := 19) (q := 13) mX6_cut dX6_cut_10 rfl (by decide) (fun c_10 => ?_) (fun c_10 => ?_)
    · refine aw_iload_n (q := 20) mX6_cut dX6_cut_19 rfl rfl ?_
      refine aw_iconst (q := 21) mX6_cut dX6_cut_20 rfl rfl ?_
      refine aw_aload_n (q := 22) mX6_cut dX6_cut_21 rfl rfl ?_
      refine aw_get (t := 0) (ji := 0) (q := 25) mX6_cut dX6_cut_22 rfl f6_98 rfl hk_a rfl m0 ?_
      refine aw_iconst (q := 26) mX6_cut dX6_cut_25 rfl rfl ?_
      refine aw_isub (q := 27) mX6_cut dX6_cut_26 rfl (by omega) (by omega) ?_
      refine aw_s3 (q := 30) mX6_cut dX6_cut_27 rfl lm6_29 l6_29 k56_84 rfl rfl rfl (pX6_within n μ t 1 (μ 35 k - 1)) (kint (fun y μ3 hy => ?_))
      obtain ⟨hmm, hy⟩ := hy
      subst hmm
      refine aw_if_ne (tgt := 39) (q := 33) mX6_cut dX6_cut_30 rfl (by decide) (fun c_30 => ?_) (fun c_30 => ?_)
      · have hrg : 1 ≤ t ∧ t < μ3 35 k := by omega
        refine aw_aload_n (q := 40) mX6_cut dX6_cut_39 rfl rfl ?_
        refine aw_get (t := 0) (ji := 5) (q := 43) mX6_cut dX6_cut_40 rfl f6_92 rfl hk_a rfl m5 ?_
        refine aw_iconst (q := 44) mX6_cut dX6_cut_43 rfl rfl ?_
        refine aw_icmp_lt (tgt := 53) (q := 47) mX6_cut dX6_cut_44 rfl (by decide) (fun c_44 => ?_) (fun c_44 => ?_)
        · refine aw_aload_n (q := 54) mX6_cut dX6_cut_53 rfl rfl ?_
          refine aw_iload_n (q := 55) mX6_cut dX6_cut_54 rfl rfl ?_
          refine aw_v1 (ci := 3) (q := 58) mX6_cut dX6_cut_55 rfl l6_99 k56_35 rfl hk_a rfl rfl rfl (hcc) (kint (fun y' μ4 hy' => ?_))
          obtain ⟨hmm, hy'⟩ := hy'
          subst hmm
          refine aw_if_eq (tgt := 67) (q := 61) mX6_cut dX6_cut_58 rfl (by decide) (fun c_58 => ?_) (fun c_58 => ?_)
          · have hnc : ¬ hasc μ4 k t := by
              rcases hy' with ⟨h1, -⟩ | ⟨-, h2⟩
              · omega
              · exact h2
            refine aw_aload_n (q := 68) mX6_cut dX6_cut_67 rfl rfl ?_
            refine aw_get (t := 0) (ji := 7) (q := 71) mX6_cut dX6_cut_68 rfl f6_89 rfl hk_a rfl m7 ?_
            refine aw_if_le (tgt := 81) (q := 74) mX6_cut dX6_cut_71 rfl (by decide) (fun c_71 => ?_) (fun c_71 => ?_)
            · have hw := w_ct0 hkk hrg c_44 hnc c_71
              refine aw_aload_n (q := 82) mX6_cut dX6_cut_81 rfl rfl ?_
              refine aw_iload_n (q := 83) mX6_cut dX6_cut_82 rfl rfl ?_
              refine aw_v1 (ci := 3) (q := 86) mX6_cut dX6_cut_83 rfl l6_102 k56_36 rfl hk_a rfl rfl rfl (pX3_addCut n μ4 a t hl hr (by rw [m5]; omega)) (kvoid (fun μ5 h5 => ?_))
              rw [m5] at h5
              obtain ⟨o1, o2, o3⟩ := h5
              have hl5 : Lay n μ5 := Lay_j hl o1 (fun b j z => by (repeat' (refine Or.elim z ?_ ?_ <;> clear z <;> intro z)) <;> first | (obtain ⟨rfl, _⟩ := z; first | exact Sj_0 (by omega) | exact Sj_1 (by omega) (by omega) | exact Sj_32 (by omega) | exact Sj_4 (by omega) (by omega) | exact Sj_2 _ | exact Sj_3 _ | exact Sj_33 (by omega) (by omega) | exact Sj_66 (by omega) (by omega) | exact Sj_w (by omega)) | (subst z; first | exact Sj_2 _ | exact Sj_3 _ | exact Sj_33 (by omega) (by omega) | exact Sj_66 (by omega) (by omega) | exact Sj_w (by omega)) | exact Sj_33 (by omega) (by omega) | exact Sj_66 (by omega) (by omega) | exact Sj_w (by omega))
              refine aw_aload_n (q := 87) mX6_cut dX6_cut_86 rfl rfl ?_
              refine aw_v0 (ci := 6) (q := 90) mX6_cut dX6_cut_87 rfl l6_43 k56_80 rfl kd_0 rfl rfl rfl (pX6_accept n μ5 hl5) (kset (fun μ6 h6 => ?_))
              have e5 : μ6 a 5 = μ4 41 k + 1 := by rw [h6, am_sn (Or.inl (by omega)), am_sn (Or.inl (by omega))]; exact o2
              refine aw_pop (q := 91) mX6_cut dX6_cut_90 rfl ?_
              refine aw_aload_n (q := 92) mX6_cut dX6_cut_91 rfl rfl ?_
              refine aw_aload_n (q := 93) mX6_cut dX6_cut_92 rfl rfl ?_
              refine aw_get (t := 0) (ji := 5) (q := 96) mX6_cut dX6_cut_93 rfl f6_92 rfl hk_a rfl e5 ?_
              refine aw_v1 (ci := 6) (q := 99) mX6_cut dX6_cut_96 rfl l6_60 k56_82 rfl kd_0 rfl rfl rfl (pX6_give n μ6 (μ4 41 k + 1)) (kset (fun μ7 h7 => ?_))
              refine aw_iret mX6_cut dX6_cut_99 ?_
              have kp : ∀ b j, b ≠ 0 → b ≠ 4 → μ7 b j = μ5 b j := fun b j z1 z2 => by rw [h7, am_sn (Or.inl z1), h6, am_sn (Or.inl z1), am_sn (Or.inl z2)]
              refine ⟨_, rfl, rfl, Or.inr ⟨hw, rfl, ?_, ?_, ?_, ?_, ?_⟩⟩
              · rw [h7, h6]
                exact (((o1.mono (fun b j z => by unfold Sct; rw [← ha]; omega)).set (by unfold Sct; omega)).set (by unfold Sct; omega)).set (by unfold Sct; omega)
              · rw [kp a 5 (by omega) (by omega)]; exact o2
              · have : μ7 (a + 1) = μ5 (a + 1) := by funext j; exact kp (a + 1) j (by omega) (by omega)
                rw [this]; exact o3
              · rw [h7, am_sn (Or.inl (by decide)), h6, am_sn (Or.inl (by decide)), am_ss]
              · rw [h7, am_ss]
            · refine aw_aload_n (q := 75) mX6_cut dX6_cut_74 rfl rfl ?_
              refine aw_bipush (q := 77) mX6_cut dX6_cut_75 rfl rfl ?_
              refine aw_v1 (ci := 6) (q := 80) mX6_cut dX6_cut_77 rfl l6_50 k56_83 rfl kd_0 rfl rfl rfl (pX6_none n μ4 7) (kset (fun μ2 h2 => ?_))
              refine aw_iret mX6_cut dX6_cut_80 ?_
              have hw := w_ct7 hkk hrg c_44 hnc c_71
              exact ⟨_, rfl, rfl, Or.inl ⟨by rw [hw]; decide, rfl, by rw [hw]; exact h2⟩⟩
          · refine aw_aload_n (q := 62) mX6_cut dX6_cut_61 rfl rfl ?_
            refine aw_iconst (q := 63) mX6_cut dX6_cut_62 rfl rfl ?_
            refine aw_v1 (ci := 6) (q := 66) mX6_cut dX6_cut_63 rfl l6_50 k56_83 rfl kd_0 rfl rfl rfl (pX6_none n μ4 4) (kset (fun μ2 h2 => ?_))
            refine aw_iret mX6_cut dX6_cut_66 ?_
            have hw := w_ct4 hkk hrg c_44 (by
              rcases hy' with ⟨-, h2⟩ | ⟨h1, -⟩
              · exact h2
              · exact absurd h1 c_58)
            exact ⟨_, rfl, rfl, Or.inl ⟨by rw [hw]; decide, rfl, by rw [hw]; exact h2⟩⟩
        · refine aw_aload_n (q := 48) mX6_cut dX6_cut_47 rfl rfl ?_
          refine aw_iconst (q := 49) mX6_cut dX6_cut_48 rfl rfl ?_
          refine aw_v1 (ci := 6) (q := 52) mX6_cut dX6_cut_49 rfl l6_50 k56_83 rfl kd_0 rfl rfl rfl (pX6_none n μ3 3) (kset (fun μ2 h2 => ?_))
          refine aw_iret mX6_cut dX6_cut_52 ?_
          have hw := w_ct3 hkk hrg c_44
          exact ⟨_, rfl, rfl, Or.inl ⟨by rw [hw]; decide, rfl, by rw [hw]; exact h2⟩⟩
      · refine aw_aload_n (q := 34) mX6_cut dX6_cut_33 rfl rfl ?_
        refine aw_iconst (q := 35) mX6_cut dX6_cut_34 rfl rfl ?_
        refine aw_v1 (ci := 6) (q := 38) mX6_cut dX6_cut_35 rfl l6_50 k56_83 rfl kd_0 rfl rfl rfl (pX6_none n μ3 2) (kset (fun μ2 h2 => ?_))
        refine aw_iret mX6_cut dX6_cut_38 ?_
        have hw := w_ct2 (t := t) hkk (by omega)
        exact ⟨_, rfl, rfl, Or.inl ⟨by rw [hw]; decide, rfl, by rw [hw]; exact h2⟩⟩
    · exact absurd (show 0 ≤ a by omega) c_10
  · refine aw_astore_n (q := 9) mX6_cut dX6_cut_8 rfl (by decide) rfl ?_
    refine aw_aload_n (q := 10) mX6_cut dX6_cut_9 rfl rfl ?_
    refine aw_ifnonnull (tgt := 19) (q := 13) mX6_cut dX6_cut_10 rfl (by decide) (fun c_10 => ?_) (fun c_10 => ?_)
    · exact absurd c_10 (by omega)
    · refine aw_aload_n (q := 14) mX6_cut dX6_cut_13 rfl rfl ?_
      refine aw_iconst (q := 15) mX6_cut dX6_cut_14 rfl rfl ?_
      refine aw_v1 (ci := 6) (q := 18) mX6_cut dX6_cut_15 rfl l6_50 k56_83 rfl kd_0 rfl rfl rfl (pX6_none n μ 1) (kset (fun μ2 h2 => ?_))
      refine aw_iret mX6_cut dX6_cut_18 ?_
      have hw := w_ct1 (t := t) hn
      exact ⟨_, rfl, rfl, Or.inl ⟨by rw [hw]; decide, rfl, by rw [hw]; exact h2⟩⟩
theorem pr_cut {n : Nat} {μ : am_M} (k t : Int) (hJ : J n μ) : Prx 56 99 [(0, k), (0, t)] n μ := by
  obtain ⟨hl, hB, hC, hD, hs, hM, hP⟩ := id hJ
  refine Prx.of (tX6_cut k t hJ) ?_
  rintro x n1 μ1 ⟨rfl, h1⟩
  have R : ∀ (μ2 μ3 : am_M) (w : Int), w ≠ 0 → w_ct μ k t = w → μ2 = am_set (am_set μ1 32 1 0) 32 0 0 → μ3 = am_set μ2 32 0 w → (some ((0 : Nat), (-1 : Int)) = some (0, x) ∧ J n1 μ3) := by
    intro μ2 μ3 w hw0 hw e2 e3
    rcases h1 with ⟨-, hx, e1⟩ | ⟨h0, -⟩
    · exact ⟨by rw [hx], hJ.ref (w := w) (by rw [e3, e2, e1, hw])⟩
    · omega
  have hk3 : Of (Sct k) μ μ1 := by
    rcases h1 with ⟨-, -, e1⟩ | ⟨-, -, e1, -⟩
    · rw [e1]; exact Of.rf.set (by unfold Sct; omega)
    · exact e1
  refine AC.of rfl ?_
  refine aw_aload_n (q := 1) mX7_cut dX7_cut_0 rfl rfl ?_
  refine aw_iconst (q := 2) mX7_cut dX7_cut_1 rfl rfl ?_
  refine aw_put (t := 0) (ji := 1) (q := 5) mX7_cut dX7_cut_2 rfl f7_123 rfl kd_32 rfl (Or.inl rfl) (Or.inl (by decide)) (fun μ_2 e_2 => ?_)
  refine aw_aload_n (q := 6) mX7_cut dX7_cut_5 rfl rfl ?_
  refine aw_iconst (q := 7) mX7_cut dX7_cut_6 rfl rfl ?_
  refine aw_put (t := 0) (ji := 0) (q := 10) mX7_cut dX7_cut_7 rfl f7_126 rfl kd_32 rfl (Or.inl rfl) (Or.inl (by decide)) (fun μ_7 e_7 => ?_)
  refine aw_aload_n (q := 11) mX7_cut dX7_cut_10 rfl rfl ?_
  refine aw_iload_n (q := 12) mX7_cut dX7_cut_11 rfl rfl ?_
  have hO7 : Of (fun a j => Sct k a j ∨ (a = 32 ∧ (j = 0 ∨ j = 1))) μ μ_7 := by
    rw [e_7, e_2]; exact ((hk3.mono (fun a j z => Or.inl z)).set (by omega)).set (by omega)
  have hin := pX7_isNote n1 μ_7 k
  refine aw_v1 (ci := 7) (q := 15) mX7_cut dX7_cut_12 rfl l7_154 k99_93 rfl kd_32 rfl rfl rfl (hin) (kint (fun y μ3 hy => ?_))
  obtain ⟨hm3, hy⟩ := hy
  subst hm3
  have e8 : μ3 32 8 = μ 32 8 := hO7 32 8 (by unfold Sct nf; omega)
  rw [e8] at hy
  refine aw_if_ne (tgt := 24) (q := 18) mX7_cut dX7_cut_15 rfl (by decide) (fun c_15 => ?_) (fun c_15 => ?_)
  rotate_left
  · refine aw_aload_n (q := 19) mX7_cut dX7_cut_18 rfl rfl ?_
    refine aw_iconst (q := 20) mX7_cut dX7_cut_19 rfl rfl ?_
    refine aw_v1 (ci := 7) (q := 23) mX7_cut dX7_cut_20 rfl l7_147 k99_89 rfl kd_32 rfl rfl rfl (pX7_refuse n1 μ3 1) (kset (fun μ4 h4 => ?_))
    refine aw_iret mX7_cut dX7_cut_23 ?_
    exact R μ3 μ4 1 (by decide) (w_ct1 (by omega)) (by rw [e_7, e_2]) h4
  have k0 : 0 ≤ k := by omega
  have k1 : k < μ 32 8 := by omega
  have hkk : 0 ≤ k ∧ k < μ 32 8 := ⟨k0, k1⟩
  obtain ⟨hN, hm, hr, hD1, h24⟩ := JNb hJ k0 k1
  obtain ⟨m0, m1, m2, m3, m5, m6, m7, m8, m9, m10, mc⟩ := id hm
  obtain ⟨n1', n2, n3, n4, n5, n6, n7, n8, n9, n10, n11, n12⟩ := id hN
  have hr66 := hr.1
  have hre := hr.2.2
  have hl3 : Lay n1 μ3 := Lay_j hl hO7 (fun a j z => by unfold Sct at z; (repeat' (refine Or.elim z ?_ ?_ <;> clear z <;> intro z)) <;> first | (obtain ⟨rfl, _⟩ := z; first | exact Sj_0 (by omega) | exact Sj_1 (by omega) (by omega) | exact Sj_32 (by omega) | exact Sj_4 (by omega) (by omega) | exact Sj_2 _ | exact Sj_3 _ | exact Sj_33 (by omega) (by omega) | exact Sj_66 (by omega) (by omega) | exact Sj_w (by omega)) | (subst z; first | exact Sj_2 _ | exact Sj_3 _ | exact Sj_33 (by omega) (by omega) | exact Sj_66 (by omega) (by omega) | exact Sj_w (by omega)) | exact Sj_33 (by omega) (by omega) | exact Sj_66 (by omega) (by omega) | exact Sj_w (by omega))
  have hl := hl3
  have e35 : μ3 35 k = μ 35 k := hO7 35 k (by unfold Sct; omega)
  have e41 : μ3 41 k = μ 41 k := hO7 41 k (by unfold Sct; omega)
  have e39 : μ3 39 k = μ 39 k := hO7 39 k (by unfold Sct; omega)
  have e44 : ∀ j, μ3 44 j = μ 44 j := fun j => hO7 44 j (by unfold Sct; omega)
  have R2 : ∀ L, ¬ (1 ≤ t ∧ t < μ 35 k) → L = [(2, 32), (0, k), (0, t), (9, 0)] → AW none 99 39 L [] n1 μ3 (fun r' n2 μ2 => r' = some (0, x) ∧ J n2 μ2) := by
    intro L hh hL
    subst hL
    refine aw_aload_n (q := 40) mX7_cut dX7_cut_39 rfl rfl ?_
    refine aw_iconst (q := 41) mX7_cut dX7_cut_40 rfl rfl ?_
    refine aw_v1 (ci := 7) (q := 44) mX7_cut dX7_cut_41 rfl l7_147 k99_89 rfl kd_32 rfl rfl rfl (pX7_refuse n1 μ3 2) (kset (fun μ4 h4 => ?_))
    refine aw_iret mX7_cut dX7_cut_44 ?_
    exact R μ3 μ4 2 (by decide) (w_ct2 hkk hh) (by rw [e_7, e_2]) h4
  refine aw_iload_n (q := 25) mX7_cut dX7_cut_24 rfl rfl ?_
  refine aw_iconst (q := 26) mX7_cut dX7_cut_25 rfl rfl ?_
  refine aw_icmp_lt (tgt := 39) (q := 29) mX7_cut dX7_cut_26 rfl (by decide) (fun c_26 => ?_) (fun c_26 => ?_)
  · exact R2 _ (by omega) rfl
  · refine aw_iload_n (q := 30) mX7_cut dX7_cut_29 rfl rfl ?_
    refine aw_aload_n (q := 31) mX7_cut dX7_cut_30 rfl rfl ?_
    refine aw_get (t := 2) (ji := 11) (q := 34) mX7_cut dX7_cut_31 rfl f7_29 rfl kd_32 rfl (ly_32_11 hl) ?_
    refine aw_iload_n (q := 35) mX7_cut dX7_cut_34 rfl rfl ?_
    refine aw_iald (q := 36) mX7_cut dX7_cut_35 rfl kd_35 (by omega) (by omega) e35 ?_
    refine aw_icmp_lt (tgt := 45) (q := 39) mX7_cut dX7_cut_36 rfl (by decide) (fun c_36 => ?_) (fun c_36 => ?_)
    rotate_left
    · exact R2 _ (by omega) rfl
    have hrg : 1 ≤ t ∧ t < μ 35 k := by omega
    refine aw_aload_n (q := 46) mX7_cut dX7_cut_45 rfl rfl ?_
    refine aw_get (t := 2) (ji := 17) (q := 49) mX7_cut dX7_cut_46 rfl f7_47 rfl kd_32 rfl (ly_32_17 hl) ?_
    refine aw_iload_n (q := 50) mX7_cut dX7_cut_49 rfl rfl ?_
    refine aw_iald (q := 51) mX7_cut dX7_cut_50 rfl kd_41 (by omega) (by omega) e41 ?_
    refine aw_iconst (q := 52) mX7_cut dX7_cut_51 rfl rfl ?_
    refine aw_icmp_ne (tgt := 61) (q := 55) mX7_cut dX7_cut_52 rfl (by decide) (fun c_52 => ?_) (fun c_52 => ?_)
    rotate_left
    · refine aw_aload_n (q := 56) mX7_cut dX7_cut_55 rfl rfl ?_
      refine aw_iconst (q := 57) mX7_cut dX7_cut_56 rfl rfl ?_
      refine aw_v1 (ci := 7) (q := 60) mX7_cut dX7_cut_57 rfl l7_147 k99_89 rfl kd_32 rfl rfl rfl (pX7_refuse n1 μ3 3) (kset (fun μ4 h4 => ?_))
      refine aw_iret mX7_cut dX7_cut_60 ?_
      exact R μ3 μ4 3 (by decide) (w_ct3 hkk hrg (by omega)) (by rw [e_7, e_2]) h4
    have h41 : μ 41 k < 3 := by omega
    -- the insertion
    have I : ¬ hasc μ k t → μ 39 k ≤ 0 → ∀ (d : Nat) (μ4 : am_M), (d : Int) ≤ μ 41 k → Of (fun a j => a = 44 ∧ 3 * k ≤ j ∧ j < 3 * k + 3) μ3 μ4 → (∀ c, 0 ≤ c → c < (d : Int) → μ4 44 (3 * k + c) = μ 44 (3 * k + c)) → (∀ c, (d : Int) ≤ c → c < μ 41 k → μ 44 (3 * k + c) < t ∧ μ4 44 (3 * k + (c + 1)) = μ 44 (3 * k + c)) → AW none 99 122 [(2, 32), (0, k), (0, t), (0, (d : Int))] [] n1 μ4 (fun r' n2 μ2 => r' = some (0, x) ∧ J n2 μ2) := by
      intro hnc h39
      have hw := w_ct0 hkk hrg h41 hnc h39
      obtain ⟨hx, o1, o2, o3, o4, o5⟩ : x = μ 41 k + 1 ∧ Of (Sct k) μ μ1 ∧ μ1 (nf k) 5 = μ 41 k + 1 ∧ Ic (μ (nf k + 1)) (μ1 (nf k + 1)) (μ 41 k) t ∧ μ1 4 5 = 1 ∧ μ1 0 2 = 0 := by
        rcases h1 with ⟨h0, -⟩ | ⟨-, z⟩
        · exact absurd hw h0
        · exact z
      -- it is in its place
      have E : ∀ (s : Int) (μ4 : am_M), 0 ≤ s → s ≤ μ 41 k → (s = 0 ∨ t ≤ μ 44 (3 * k + (s - 1))) → Of (fun a j => a = 44 ∧ 3 * k ≤ j ∧ j < 3 * k + 3) μ3 μ4 → (∀ c, 0 ≤ c → c < s → μ4 44 (3 * k + c) = μ 44 (3 * k + c)) → (∀ c, s ≤ c → c < μ 41 k → μ 44 (3 * k + c) < t ∧ μ4 44 (3 * k + (c + 1)) = μ 44 (3 * k + c)) → AW none 99 170 [(2, 32), (0, k), (0, t), (0, s)] [] n1 μ4 (fun r' n2 μ2 => r' = some (0, x) ∧ J n2 μ2) := by
        intro s μ4 s0 s1 s2 hO4 hlo hhi
        have hl : Lay n1 μ4 := Lay_j hl3 hO4 (fun a j z => by (repeat' (refine Or.elim z ?_ ?_ <;> clear z <;> intro z)) <;> first | (obtain ⟨rfl, _⟩ := z; first | exact Sj_0 (by omega) | exact Sj_1 (by omega) (by omega) | exact Sj_32 (by omega) | exact Sj_4 (by omega) (by omega) | exact Sj_2 _ | exact Sj_3 _ | exact Sj_33 (by omega) (by omega) | exact Sj_66 (by omega) (by omega) | exact Sj_w (by omega)) | (subst z; first | exact Sj_2 _ | exact Sj_3 _ | exact Sj_33 (by omega) (by omega) | exact Sj_66 (by omega) (by omega) | exact Sj_w (by omega)) | exact Sj_33 (by omega) (by omega) | exact Sj_66 (by omega) (by omega) | exact Sj_w (by omega))
        have e41' : μ4 41 k = μ 41 k := (hO4 41 k (by omega)).trans e41
        refine aw_aload_n (q := 171) mX7_cut dX7_cut_170 rfl rfl ?_
        refine aw_get (t := 2) (ji := 20) (q := 174) mX7_cut dX7_cut_171 rfl f7_56 rfl kd_32 rfl (ly_32_20 hl) ?_
        refine aw_iconst (q := 175) mX7_cut dX7_cut_174 rfl rfl ?_
        refine aw_iload_n (q := 176) mX7_cut dX7_cut_175 rfl rfl ?_
        refine aw_imul (q := 177) mX7_cut dX7_cut_176 rfl (by omega) (by omega) ?_
        refine aw_iload_n (q := 178) mX7_cut dX7_cut_177 rfl rfl ?_
        refine aw_iadd (q := 179) mX7_cut dX7_cut_178 rfl (by omega) (by omega) ?_
        refine aw_iload_n (q := 180) mX7_cut dX7_cut_179 rfl rfl ?_
        refine aw_iast (q := 181) mX7_cut dX7_cut_180 rfl kd_44 (by omega) (by omega) (fun μ_180 e_180 => ?_)
        have hl : Lay n1 μ_180 := by rw [e_180]; exact Lay.setA la_44 hl
        refine aw_aload_n (q := 182) mX7_cut dX7_cut_181 rfl rfl ?_
        refine aw_get (t := 2) (ji := 17) (q := 185) mX7_cut dX7_cut_182 rfl f7_47 rfl kd_32 rfl (ly_32_17 hl) ?_
        refine aw_iload_n (q := 186) mX7_cut dX7_cut_185 rfl rfl ?_
        refine aw_dup2 (q := 187) mX7_cut dX7_cut_186 rfl ?_
        refine aw_iald (q := 188) mX7_cut dX7_cut_187 rfl kd_41 (by omega) (by omega) (rd_sn e_180 (Or.inl (by decide)) e41') ?_
        refine aw_iconst (q := 189) mX7_cut dX7_cut_188 rfl rfl ?_
        refine aw_iadd (q := 190) mX7_cut dX7_cut_189 rfl (by omega) (by omega) ?_
        refine aw_iast (q := 191) mX7_cut dX7_cut_190 rfl kd_41 (by omega) (by omega) (fun μ_190 e_190 => ?_)
        have hl : Lay n1 μ_190 := by rw [e_190]; exact Lay.setA la_41 hl
        refine aw_aload_n (q := 192) mX7_cut dX7_cut_191 rfl rfl ?_
        refine aw_v0 (ci := 7) (q := 195) mX7_cut dX7_cut_192 rfl l7_143 k99_91 rfl kd_32 rfl rfl rfl (pX7_done n1 μ_190) (kset (fun μ5 h5 => ?_))
        have v41 : μ5 41 k = μ 41 k + 1 := by rw [h5, am_sn (Or.inl (by decide)), e_190, am_ss]
        have hl : Lay n1 μ5 := by rw [h5]; exact Lay.setF lf_32_21 hl
        refine aw_pop (q := 196) mX7_cut dX7_cut_195 rfl ?_
        refine aw_aload_n (q := 197) mX7_cut dX7_cut_196 rfl rfl ?_
        refine aw_get (t := 2) (ji := 17) (q := 200) mX7_cut dX7_cut_197 rfl f7_47 rfl kd_32 rfl (ly_32_17 hl) ?_
        refine aw_iload_n (q := 201) mX7_cut dX7_cut_200 rfl rfl ?_
        refine aw_iald (q := 202) mX7_cut dX7_cut_201 rfl kd_41 (by omega) (by omega) v41 ?_
        refine aw_iret mX7_cut dX7_cut_202 ?_
        have v44 : ∀ j, μ5 44 j = if j = 3 * k + s then t else μ4 44 j := fun j => by
          rw [h5, am_sn (Or.inl (by decide)), e_190, am_sn (Or.inl (by decide)), e_180]
          by_cases hj : j = 3 * k + s
          · rw [hj, am_ss, if_pos rfl]
          · rw [am_sn (Or.inr hj), if_neg hj]
        have hOx : Of (fun a j => (a = 44 ∧ 3 * k ≤ j ∧ j < 3 * k + 3) ∨ (a = 41 ∧ j = k) ∨ (a = 32 ∧ j = 21)) μ3 μ5 := by
          rw [h5, e_190, e_180]
          exact (((hO4.mono (fun a j z => by omega)).set (by omega)).set (by omega)).set (by omega)
        have hO : Of (fun a j => Sct k a j ∨ (a = 32 ∧ (j = 0 ∨ j = 1 ∨ j = 21)) ∨ (a = 44 ∧ 3 * k ≤ j ∧ j < 3 * k + 3) ∨ (a = 41 ∧ j = k)) μ μ5 := (hO7.mono (fun a j z => z.elim Or.inl (fun z => Or.inr (Or.inl ⟨z.1, by omega⟩)))).tr (hOx.mono (fun a j z => Or.inr (by omega)))
        have hIm : Ic (fun c => μ 44 (3 * k + c)) (fun c => μ5 44 (3 * k + c)) (μ 41 k) t := by
          refine ⟨s, ⟨s0, s1⟩, s2, fun c z0 z1 => (hhi c z0 z1).1, fun c z0 z1 => ?_, ?_, fun c z0 z1 => ?_⟩
          · show μ5 44 (3 * k + c) = _
            rw [v44, if_neg (by omega)]; exact hlo c z0 z1
          · show μ5 44 (3 * k + s) = t
            rw [v44, if_pos rfl]
          · show μ5 44 (3 * k + (c + 1)) = _
            rw [v44, if_neg (by omega)]; exact (hhi c z0 z1).2
        have w1 : ∀ a j, a ≠ 32 → a ≠ 44 → a ≠ 41 → μ5 a j = μ1 a j := fun a j q1 q2 q3 => by
          rw [hOx a j (by omega), e_7, am_sn (Or.inl q1), e_2, am_sn (Or.inl q1)]
        have hIc : Ic (fun c => μ 44 (3 * k + c)) (μ5 (nf k + 1)) (μ 41 k) t := by
          have : μ5 (nf k + 1) = μ1 (nf k + 1) := by funext j; exact w1 _ j (by omega) (by omega) (by omega)
          rw [this]
          exact o3.cg (fun c z0 z1 => (mc c z0 z1).symm)
        have hcu : ∀ c, 0 ≤ c → c < μ 41 k + 1 → μ5 (nf k + 1) c = μ5 44 (3 * k + c) := fun c z0 z1 => hIc.uniq hIm c z0 (by omega)
        have v5 : μ5 (nf k) 5 = μ 41 k + 1 := by rw [w1 _ _ (by omega) (by omega) (by omega)]; exact o2
        have v45 : μ5 4 5 = 1 := by rw [w1 _ _ (by omega) (by omega) (by omega)]; exact o4
        have v21 : μ5 32 21 = 0 := by rw [h5, am_ss]
        have vs : μ5 0 2 = μ5 32 0 := by rw [w1 _ _ (by omega) (by omega) (by omega), o5, hOx 32 0 (by omega), e_7, am_ss]
        have hJ2 : J n1 μ5 := hJ.upd (q := k) (Lay_j hJ.1 hO (fun a j z => by unfold Sct at z; (repeat' (refine Or.elim z ?_ ?_ <;> clear z <;> intro z)) <;> first | (obtain ⟨rfl, _⟩ := z; first | exact Sj_0 (by omega) | exact Sj_1 (by omega) (by omega) | exact Sj_32 (by omega) | exact Sj_4 (by omega) (by omega) | exact Sj_2 _ | exact Sj_3 _ | exact Sj_33 (by omega) (by omega) | exact Sj_66 (by omega) (by omega) | exact Sj_w (by omega)) | (subst z; first | exact Sj_2 _ | exact Sj_3 _ | exact Sj_33 (by omega) (by omega) | exact Sj_66 (by omega) (by omega) | exact Sj_w (by omega)) | exact Sj_33 (by omega) (by omega) | exact Sj_66 (by omega) (by omega) | exact Sj_w (by omega))) (fun j _ _ => hO 32 j (by unfold Sct; omega)) (fun j _ _ => hO 1 j (by unfold Sct; omega)) (fun j => hO 2 j (by unfold Sct; omega)) (fun j => hO 3 j (by unfold Sct; omega)) (fun j => hO 33 j (by unfold Sct; omega)) (fun z z0 z1 hz => ⟨fun a _ _ => hO a z (by unfold Sct; omega), fun c _ _ => hO 44 _ (by unfold Sct; omega), fun j _ _ => hO _ j (by unfold Sct nf; omega), fun c _ _ => hO _ c (by unfold Sct nf; omega)⟩) (by
          have kk : ∀ a, 34 ≤ a → a ≤ 43 → a ≠ 41 → μ5 a k = μ a k := fun a a0 a1 a2 => hO a k (by unfold Sct; omega)
          have kn : ∀ j, j ≠ 5 → μ5 (nf k) j = μ (nf k) j := fun j z1 => hO _ j (by unfold Sct; omega)
          have k7 : μ5 32 7 = μ 32 7 := hO 32 7 (by unfold Sct; omega)
          refine ⟨?_, ?_, by rw [kk 43 (by decide) (by decide) (by decide)]; exact hD1.1, by rw [kk 43 (by decide) (by decide) (by decide)]; exact hD1.2⟩
          · unfold Nb
            rw [kk 34 (by decide) (by decide) (by decide), kk 35 (by decide) (by decide) (by decide), kk 36 (by decide) (by decide) (by decide), kk 37 (by decide) (by decide) (by decide), kk 38 (by decide) (by decide) (by decide), kk 39 (by decide) (by decide) (by decide), kk 40 (by decide) (by decide) (by decide), v41, kk 42 (by decide) (by decide) (by decide), k7]
            refine ⟨n1', n2, n3, n4, n5, n6, n7, by omega, n9, n10, fun c z0 z1 => ?_, fun z => by omega⟩
            rcases hIm.val z0 (show c ≤ μ 41 k by omega) with q | ⟨c', q1, q2⟩
            · have q : μ5 44 (3 * k + c) = t := q
              rw [q]; exact hrg
            · have q2 : μ5 44 (3 * k + c) = μ 44 (3 * k + c') := q2
              rw [q2]; exact n11 c' q1.1 q1.2
          · unfold Nm
            rw [kk 34 (by decide) (by decide) (by decide), kk 35 (by decide) (by decide) (by decide), kk 36 (by decide) (by decide) (by decide), kk 37 (by decide) (by decide) (by decide), kk 38 (by decide) (by decide) (by decide), kk 39 (by decide) (by decide) (by decide), kk 40 (by decide) (by decide) (by decide), v41, kk 42 (by decide) (by decide) (by decide), kk 43 (by decide) (by decide) (by decide), v5, kn 0 (by decide), kn 1 (by decide), kn 2 (by decide), kn 3 (by decide), kn 6 (by decide), kn 7 (by decide), kn 8 (by decide), kn 9 (by decide), kn 10 (by decide)]
            exact ⟨m0, m1, m2, m3, rfl, m6, m7, m8, m9, m10, hcu⟩) vs (J.unset v21) (J.stale v45)
        exact ⟨by rw [hx], hJ2⟩
      intro d
      induction d with
      | zero =>
        intro μ4 hd hO4 hlo hhi
        refine aw_iload_n (q := 123) mX7_cut dX7_cut_122 rfl rfl ?_
        refine aw_if_le (tgt := 170) (q := 126) mX7_cut dX7_cut_123 rfl (by decide) (fun c_123 => ?_) (fun c_123 => ?_)
        · exact E 0 μ4 (by omega) (by omega) (Or.inl rfl) hO4 hlo hhi
        · exact absurd c_123 (by omega)
      | succ d ih =>
        intro μ4 hd hO4 hlo hhi
        have hl : Lay n1 μ4 := Lay_j hl3 hO4 (fun a j z => by (repeat' (refine Or.elim z ?_ ?_ <;> clear z <;> intro z)) <;> first | (obtain ⟨rfl, _⟩ := z; first | exact Sj_0 (by omega) | exact Sj_1 (by omega) (by omega) | exact Sj_32 (by omega) | exact Sj_4 (by omega) (by omega) | exact Sj_2 _ | exact Sj_3 _ | exact Sj_33 (by omega) (by omega) | exact Sj_66 (by omega) (by omega) | exact Sj_w (by omega)) | (subst z; first | exact Sj_2 _ | exact Sj_3 _ | exact Sj_33 (by omega) (by omega) | exact Sj_66 (by omega) (by omega) | exact Sj_w (by omega)) | exact Sj_33 (by omega) (by omega) | exact Sj_66 (by omega) (by omega) | exact Sj_w (by omega))
        have hrd : μ4 44 (3 * k + ((d + 1 : Nat) : Int) - 1) = μ 44 (3 * k + (d : Int)) := by
          rw [show 3 * k + ((d + 1 : Nat) : Int) - 1 = 3 * k + (d : Int) by omega]
          exact hlo _ (by omega) (by omega)
        refine aw_iload_n (q := 123) mX7_cut dX7_cut_122 rfl rfl ?_
        refine aw_if_le (tgt := 170) (q := 126) mX7_cut dX7_cut_123 rfl (by decide) (fun c_123 => ?_) (fun c_123 => ?_)
        · exact absurd c_123 (by omega)
        · refine aw_aload_n (q := 127) mX7_cut dX7_cut_126 rfl rfl ?_
          refine aw_get (t := 2) (ji := 20) (q := 130) mX7_cut dX7_cut_127 rfl f7_56 rfl kd_32 rfl (ly_32_20 hl) ?_
          refine aw_iconst (q := 131) mX7_cut dX7_cut_130 rfl rfl ?_
          refine aw_iload_n (q := 132) mX7_cut dX7_cut_131 rfl rfl ?_
          refine aw_imul (q := 133) mX7_cut dX7_cut_132 rfl (by omega) (by omega) ?_
          refine aw_iload_n (q := 134) mX7_cut dX7_cut_133 rfl rfl ?_
          refine aw_iadd (q := 135) mX7_cut dX7_cut_134 rfl (by omega) (by omega) ?_
          refine aw_iconst (q := 136) mX7_cut dX7_cut_135 rfl rfl ?_
          refine aw_isub (q := 137) mX7_cut dX7_cut_136 rfl (by omega) (by omega) ?_
          refine aw_iald (q := 138) mX7_cut dX7_cut_137 rfl kd_44 (by omega) (by omega) hrd ?_
          refine aw_iload_n (q := 139) mX7_cut dX7_cut_138 rfl rfl ?_
          refine aw_icmp_ge (tgt := 170) (q := 142) mX7_cut dX7_cut_139 rfl (by decide) (fun c_139 => ?_) (fun c_139 => ?_)
          · refine E _ μ4 (by omega) (by omega) (Or.inr ?_) hO4 hlo hhi
            rw [show ((d + 1 : Nat) : Int) - 1 = (d : Int) by omega]; omega
          · refine aw_aload_n (q := 143) mX7_cut dX7_cut_142 rfl rfl ?_
            refine aw_get (t := 2) (ji := 20) (q := 146) mX7_cut dX7_cut_143 rfl f7_56 rfl kd_32 rfl (ly_32_20 hl) ?_
            refine aw_iconst (q := 147) mX7_cut dX7_cut_146 rfl rfl ?_
            refine aw_iload_n (q := 148) mX7_cut dX7_cut_147 rfl rfl ?_
            refine aw_imul (q := 149) mX7_cut dX7_cut_148 rfl (by omega) (by omega) ?_
            refine aw_iload_n (q := 150) mX7_cut dX7_cut_149 rfl rfl ?_
            refine aw_iadd (q := 151) mX7_cut dX7_cut_150 rfl (by omega) (by omega) ?_
            refine aw_aload_n (q := 152) mX7_cut dX7_cut_151 rfl rfl ?_
            refine aw_get (t := 2) (ji := 20) (q := 155) mX7_cut dX7_cut_152 rfl f7_56 rfl kd_32 rfl (ly_32_20 hl) ?_
            refine aw_iconst (q := 156) mX7_cut dX7_cut_155 rfl rfl ?_
            refine aw_iload_n (q := 157) mX7_cut dX7_cut_156 rfl rfl ?_
            refine aw_imul (q := 158) mX7_cut dX7_cut_157 rfl (by omega) (by omega) ?_
            refine aw_iload_n (q := 159) mX7_cut dX7_cut_158 rfl rfl ?_
            refine aw_iadd (q := 160) mX7_cut dX7_cut_159 rfl (by omega) (by omega) ?_
            refine aw_iconst (q := 161) mX7_cut dX7_cut_160 rfl rfl ?_
            refine aw_isub (q := 162) mX7_cut dX7_cut_161 rfl (by omega) (by omega) ?_
            refine aw_iald (q := 163) mX7_cut dX7_cut_162 rfl kd_44 (by omega) (by omega) hrd ?_
            refine aw_iast (q := 164) mX7_cut dX7_cut_163 rfl kd_44 (by omega) (by omega) (fun μ_163 e_163 => ?_)
            have hl : Lay n1 μ_163 := by rw [e_163]; exact Lay.setA la_44 hl
            refine aw_iinc (q := 167) mX7_cut dX7_cut_164 rfl rfl (by decide) (by omega) (by omega) rfl ?_
            refine aw_goto (q := 122) mX7_cut dX7_cut_167 (by decide) ?_
            rw [show ((d + 1 : Nat) : Int) + -1 = (d : Int) by omega]
            refine ih μ_163 (by omega) (by rw [e_163]; exact hO4.set (by omega)) (fun c z0 z1 => by rw [e_163, am_sn (Or.inr (by omega))]; exact hlo c z0 (by omega)) (fun c z0 z1 => ?_)
            by_cases hc : c = (d : Int)
            · rw [hc, e_163, show 3 * k + ((d : Int) + 1) = 3 * k + ((d + 1 : Nat) : Int) by omega, am_ss]
              exact ⟨by omega, rfl⟩
            · rw [e_163, am_sn (Or.inr (by omega))]
              exact hhi c (by omega) z1
    -- is it there already
    have C : ∀ (d : Nat) (i : Int), 0 ≤ i → i + d = μ 41 k → (∀ c, 0 ≤ c → c < i → μ 44 (3 * k + c) ≠ t) → AW none 99 63 [(2, 32), (0, k), (0, t), (0, i)] [] n1 μ3 (fun r' n2 μ2 => r' = some (0, x) ∧ J n2 μ2) := by
      intro d
      induction d with
      | zero =>
        intro i i0 hid hno
        have hnc : ¬ hasc μ k t := fun ⟨c, z1, z2⟩ => hno c z1.1 (by omega) z2
        refine aw_iload_n (q := 64) mX7_cut dX7_cut_63 rfl rfl ?_
        refine aw_aload_n (q := 65) mX7_cut dX7_cut_64 rfl rfl ?_
        refine aw_get (t := 2) (ji := 17) (q := 68) mX7_cut dX7_cut_65 rfl f7_47 rfl kd_32 rfl (ly_32_17 hl) ?_
        refine aw_iload_n (q := 69) mX7_cut dX7_cut_68 rfl rfl ?_
        refine aw_iald (q := 70) mX7_cut dX7_cut_69 rfl kd_41 (by omega) (by omega) e41 ?_
        refine aw_icmp_ge (tgt := 99) (q := 73) mX7_cut dX7_cut_70 rfl (by decide) (fun c_70 => ?_) (fun c_70 => ?_)
        · refine aw_aload_n (q := 100) mX7_cut dX7_cut_99 rfl rfl ?_
          refine aw_get (t := 2) (ji := 15) (q := 103) mX7_cut dX7_cut_100 rfl f7_41 rfl kd_32 rfl (ly_32_15 hl) ?_
          refine aw_iload_n (q := 104) mX7_cut dX7_cut_103 rfl rfl ?_
          refine aw_iald (q := 105) mX7_cut dX7_cut_104 rfl kd_39 (by omega) (by omega) e39 ?_
          refine aw_if_le (tgt := 115) (q := 108) mX7_cut dX7_cut_105 rfl (by decide) (fun c_105 => ?_) (fun c_105 => ?_)
          · refine aw_aload_n (q := 116) mX7_cut dX7_cut_115 rfl rfl ?_
            refine aw_get (t := 2) (ji := 17) (q := 119) mX7_cut dX7_cut_116 rfl f7_47 rfl kd_32 rfl (ly_32_17 hl) ?_
            refine aw_iload_n (q := 120) mX7_cut dX7_cut_119 rfl rfl ?_
            refine aw_iald (q := 121) mX7_cut dX7_cut_120 rfl kd_41 (by omega) (by omega) e41 ?_
            refine aw_istore_n (q := 122) mX7_cut dX7_cut_121 rfl (by decide) rfl ?_
            have h9 := I hnc c_105 (μ 41 k).toNat μ3 (by omega) Of.rf (fun c _ _ => e44 _) (fun c z0 z1 => by omega)
            rw [show (((μ 41 k).toNat : Nat) : Int) = μ 41 k by omega] at h9
            exact h9
          · refine aw_aload_n (q := 109) mX7_cut dX7_cut_108 rfl rfl ?_
            refine aw_bipush (q := 111) mX7_cut dX7_cut_109 rfl rfl ?_
            refine aw_v1 (ci := 7) (q := 114) mX7_cut dX7_cut_111 rfl l7_147 k99_89 rfl kd_32 rfl rfl rfl (pX7_refuse n1 μ3 7) (kset (fun μ4 h4 => ?_))
            refine aw_iret mX7_cut dX7_cut_114 ?_
            exact R μ3 μ4 7 (by decide) (w_ct7 hkk hrg h41 hnc c_105) (by rw [e_7, e_2]) h4
        · exact absurd c_70 (by omega)
      | succ d ih =>
        intro i i0 hid hno
        refine aw_iload_n (q := 64) mX7_cut dX7_cut_63 rfl rfl ?_
        refine aw_aload_n (q := 65) mX7_cut dX7_cut_64 rfl rfl ?_
        refine aw_get (t := 2) (ji := 17) (q := 68) mX7_cut dX7_cut_65 rfl f7_47 rfl kd_32 rfl (ly_32_17 hl) ?_
        refine aw_iload_n (q := 69) mX7_cut dX7_cut_68 rfl rfl ?_
        refine aw_iald (q := 70) mX7_cut dX7_cut_69 rfl kd_41 (by omega) (by omega) e41 ?_
        refine aw_icmp_ge (tgt := 99) (q := 73) mX7_cut dX7_cut_70 rfl (by decide) (fun c_70 => ?_) (fun c_70 => ?_)
        · exact absurd c_70 (by omega)
        · refine aw_aload_n (q := 74) mX7_cut dX7_cut_73 rfl rfl ?_
          refine aw_get (t := 2) (ji := 20) (q := 77) mX7_cut dX7_cut_74 rfl f7_56 rfl kd_32 rfl (ly_32_20 hl) ?_
          refine aw_iconst (q := 78) mX7_cut dX7_cut_77 rfl rfl ?_
          refine aw_iload_n (q := 79) mX7_cut dX7_cut_78 rfl rfl ?_
          refine aw_imul (q := 80) mX7_cut dX7_cut_79 rfl (by omega) (by omega) ?_
          refine aw_iload_n (q := 81) mX7_cut dX7_cut_80 rfl rfl ?_
          refine aw_iadd (q := 82) mX7_cut dX7_cut_81 rfl (by omega) (by omega) ?_
          refine aw_iald (q := 83) mX7_cut dX7_cut_82 rfl kd_44 (by omega) (by omega) (e44 (3 * k + i)) ?_
          refine aw_iload_n (q := 84) mX7_cut dX7_cut_83 rfl rfl ?_
          refine aw_icmp_ne (tgt := 93) (q := 87) mX7_cut dX7_cut_84 rfl (by decide) (fun c_84 => ?_) (fun c_84 => ?_)
          · refine aw_iinc (q := 96) mX7_cut dX7_cut_93 rfl rfl (by decide) (by omega) (by omega) rfl ?_
            refine aw_goto (q := 63) mX7_cut dX7_cut_96 (by decide) ?_
            refine ih (i + 1) (by omega) (by omega) (fun c z0 z1 => ?_)
            by_cases hc : c = i
            · rw [hc]; exact c_84
            · exact hno c z0 (by omega)
          · refine aw_aload_n (q := 88) mX7_cut dX7_cut_87 rfl rfl ?_
            refine aw_iconst (q := 89) mX7_cut dX7_cut_88 rfl rfl ?_
            refine aw_v1 (ci := 7) (q := 92) mX7_cut dX7_cut_89 rfl l7_147 k99_89 rfl kd_32 rfl rfl rfl (pX7_refuse n1 μ3 4) (kset (fun μ4 h4 => ?_))
            refine aw_iret mX7_cut dX7_cut_92 ?_
            exact R μ3 μ4 4 (by decide) (w_ct4 hkk hrg h41 ⟨i, by omega, Decidable.not_not.mp c_84⟩) (by rw [e_7, e_2]) h4
    refine aw_iconst (q := 62) mX7_cut dX7_cut_61 rfl rfl ?_
    refine aw_istore_n (q := 63) mX7_cut dX7_cut_62 rfl (by decide) rfl ?_
    exact C (μ 41 k).toNat 0 (by decide) (by omega) (fun c z0 z1 => by omega)

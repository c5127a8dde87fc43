/-! the class's Edge: clear, add, fits -/
def Sd (e a j : Int) : Prop := (a = e ∧ (j = 9 ∨ j = 10)) ∨ a = e + 1 ∨ a = e + 2
theorem Sd_Sk {e : Int} (he : e = 18 ∨ e = 25) : ∀ a j, Sd e a j → Sk a j := fun a j h => by unfold Sd at h; unfold Sk; omega
theorem pX2_clear (n : Nat) (μ : am_M) (e : Int) (he : e = 18 ∨ e = 25) (hl0 : Lay n μ) (hc : Bc μ) (hr : 0 ≤ μ e 11 ∧ μ e 11 ≤ 400) : AC 23 [(2, e)] n μ (PV n (fun μ' => Of (Sd e) μ μ' ∧ μ' e 9 = 0 ∧ μ' e 10 = if 0 < μ e 11 then μ e 11 + μ 1 5 else 0)) := by
  obtain ⟨c1, c2, c3⟩ := id hc
  have hl := hl0
  have he1 : e ≠ 1 := by omega
  refine AC.of rfl ?_
  refine aw_aload_n (q := 1) mX2_clear dX2_clear_0 rfl rfl ?_
  refine aw_iconst (q := 2) mX2_clear dX2_clear_1 rfl rfl ?_
  refine aw_put (t := 0) (ji := 9) (q := 5) mX2_clear dX2_clear_2 rfl f2_41 rfl (kdE0 he) rfl (Or.inl rfl) (Or.inl (by decide)) (fun μ_2 e_2 => ?_)
  have hl : Lay n μ_2 := by rw [e_2]; exact lfE9 hl he
  refine aw_aload_n (q := 6) mX2_clear dX2_clear_5 rfl rfl ?_
  refine aw_aload_n (q := 7) mX2_clear dX2_clear_6 rfl rfl ?_
  refine aw_get (t := 0) (ji := 11) (q := 10) mX2_clear dX2_clear_7 rfl f2_44 rfl (kdE0 he) rfl (rd_sn e_2 (Or.inr (by decide)) rfl) ?_
  refine aw_if_le (tgt := 28) (q := 13) mX2_clear dX2_clear_10 rfl (by decide) (fun c_10 => ?_) (fun c_10 => ?_)
  · refine aw_iconst (q := 29) mX2_clear dX2_clear_28 rfl rfl ?_
    refine aw_put (t := 0) (ji := 10) (q := 32) mX2_clear dX2_clear_29 rfl f2_52 rfl (kdE0 he) rfl (Or.inl rfl) (Or.inl (by decide)) (fun μ_29 e_29 => ?_)
    have hl : Lay n μ_29 := by rw [e_29]; exact lfE10 hl he
    refine aw_vret mX2_clear dX2_clear_32 ?_
    refine ⟨rfl, rfl, ?_, ?_, ?_⟩
    · rw [e_29, e_2]; exact (Of.rf.set (by unfold Sd; omega)).set (by unfold Sd; omega)
    · rw [e_29, am_sn (Or.inr (by decide)), e_2, am_ss]
    · rw [e_29, am_ss, if_neg (by omega)]
  · refine aw_aload_n (q := 14) mX2_clear dX2_clear_13 rfl rfl ?_
    refine aw_get (t := 0) (ji := 11) (q := 17) mX2_clear dX2_clear_14 rfl f2_44 rfl (kdE0 he) rfl (rd_sn e_2 (Or.inr (by decide)) rfl) ?_
    refine aw_aload_n (q := 18) mX2_clear dX2_clear_17 rfl rfl ?_
    refine aw_get (t := 2) (ji := 0) (q := 21) mX2_clear dX2_clear_18 rfl f2_33 rfl (kdE0 he) rfl (lyE0 hl he) ?_
    refine aw_get (t := 0) (ji := 5) (q := 24) mX2_clear dX2_clear_21 rfl f2_47 rfl kd_1 rfl (rd_sn e_2 (Or.inl (by omega)) rfl) ?_
    refine aw_iadd (q := 25) mX2_clear dX2_clear_24 rfl (by omega) (by omega) ?_
    refine aw_goto (q := 29) mX2_clear dX2_clear_25 (by decide) ?_
    refine aw_put (t := 0) (ji := 10) (q := 32) mX2_clear dX2_clear_29 rfl f2_52 rfl (kdE0 he) rfl (Or.inl rfl) (Or.inl (by decide)) (fun μ_29 e_29 => ?_)
    have hl : Lay n μ_29 := by rw [e_29]; exact lfE10 hl he
    refine aw_vret mX2_clear dX2_clear_32 ?_
    refine ⟨rfl, rfl, ?_, ?_, ?_⟩
    · rw [e_29, e_2]; exact (Of.rf.set (by unfold Sd; omega)).set (by unfold Sd; omega)
    · rw [e_29, am_sn (Or.inr (by decide)), e_2, am_ss]
    · rw [e_29, am_ss, if_pos (by omega)]
/-- a row in the making: the next one's shift is told too -/
def Em (n : Nat) (μ : am_M) (e s : Int) (r : List Int) : Prop := Ew n μ e s r ∧ μ e 10 = ed_end μ s r
theorem ed_sh_tr {μ μ1 : am_M} (hg : μ1 1 5 = μ 1 5) : ∀ {r : List Int} {s : Int}, (∀ x ∈ r, μ1 x 8 = μ x 8) → ed_sh μ1 s r = ed_sh μ s r ∧ ed_end μ1 s r = ed_end μ s r := by
  intro r
  induction r with
  | nil => intro s _; exact ⟨rfl, rfl⟩
  | cons x r ih =>
    intro s h
    have h1 := ih (s := s + μ x 8 + μ 1 5) (fun y hy => h y (List.mem_cons_of_mem _ hy))
    unfold ed_sh ed_end
    rw [h x List.mem_cons_self, hg, h1.1, h1.2]
    exact ⟨rfl, rfl⟩
/-- memory alike where the notes are told -/
def NE (μ μ1 : am_M) : Prop := (∀ j, 2 ≤ j → j ≤ 8 → μ1 1 j = μ 1 j) ∧ ∀ a j, 66 ≤ a → (a % 2 = 1 ∨ j ≤ 10) → μ1 a j = μ a j
theorem Of.ne {S : Int → Int → Prop} {μ μ1 : am_M} (h : Of S μ μ1) (hs : ∀ a j, S a j → Sk a j) : NE μ μ1 := ⟨fun j h1 h2 => h 1 j (fun z => by have := hs _ _ z; unfold Sk at this; omega), fun a j h1 h2 => h a j (fun z => by have := hs _ _ z; unfold Sk at this; omega)⟩
theorem Nc.tr {n : Nat} {μ μ1 : am_M} {x : Int} (h : NE μ μ1) (hx : Nr n x) (hN : Nc μ x) : Nc μ1 x := by
  obtain ⟨x1, x2, x3⟩ := hx
  unfold Nc at hN ⊢
  rw [h.2 x 8 x1 (by omega), h.2 x 9 x1 (by omega), h.2 x 1 x1 (by omega), h.2 x 5 x1 (by omega), h.2 x 0 x1 (by omega)]
  obtain ⟨a1, a2, a3, a4, a5, a6, a7⟩ := hN
  refine ⟨a1, a2, a3, a4, a5, fun c h0 h1 => ?_, a7⟩
  rw [h.2 (x + 1) c (by omega) (by omega)]
  exact a6 c h0 h1
theorem Bc.tr {μ μ1 : am_M} (h : NE μ μ1) (hc : Bc μ) : Bc μ1 := by
  unfold Bc at hc ⊢
  rw [h.1 4 (by decide) (by decide), h.1 5 (by decide) (by decide), h.1 6 (by decide) (by decide)]
  exact hc
theorem Ew.tr {n : Nat} {μ μ1 : am_M} {e s : Int} {r : List Int} (h : NE μ μ1) (h9 : μ1 e 9 = μ e 9) (h1 : ∀ j, μ1 (e + 1) j = μ (e + 1) j) (h2 : ∀ j, μ1 (e + 2) j = μ (e + 2) j) (hE : Ew n μ e s r) : Ew n μ1 e s r := by
  obtain ⟨w1, w2, w3, w4, w5, w6⟩ := hE
  refine ⟨by rw [h9]; exact w1, w2, w3.to h1, ?_, fun x hx => ⟨(w5 x hx).1, (w5 x hx).2.tr h (w5 x hx).1⟩, w6⟩
  rw [(ed_sh_tr (h.1 5 (by decide) (by decide)) (fun x hx => h.2 x 8 (w5 x hx).1.1 (by omega))).1]
  exact w4.to h2
theorem pX2_add (n : Nat) (μ : am_M) (e s x : Int) (r : List Int) (he : e = 18 ∨ e = 25) (hl0 : Lay n μ) (hc : Bc μ) (hE : Em n μ e s r) (hx : Nr n x) (hN : Nc μ x) (h24 : r.length < 24) : AC 24 [(2, e), (2, x)] n μ (PV n (fun μ' => Of (Sd e) μ μ' ∧ Em n μ' e s (r ++ [x]))) := by
  obtain ⟨⟨w1, w2, w3, w4, w5, w6⟩, w7⟩ := id hE
  obtain ⟨c1, c2, c3⟩ := id hc
  obtain ⟨n1, -⟩ := id hN
  have hl := hl0
  have hk_x := hx.k
  have hx66 := hx.1
  have heb := ed_end_b c2 (p := r) (s := s) (fun y hy => (w5 y hy).2)
  refine AC.of rfl ?_
  refine aw_aload_n (q := 1) mX2_add dX2_add_0 rfl rfl ?_
  refine aw_get (t := 0) (ji := 9) (q := 4) mX2_add dX2_add_1 rfl f2_41 rfl (kdE0 he) rfl w1 ?_
  refine aw_aload_n (q := 5) mX2_add dX2_add_4 rfl rfl ?_
  refine aw_get (t := 2) (ji := 2) (q := 8) mX2_add dX2_add_5 rfl f2_11 rfl (kdE0 he) rfl (lyE2 hl he) ?_
  refine aw_alen (zi := 24) (q := 9) mX2_add dX2_add_8 rfl (kdE1 he) (by decide) rfl ?_
  refine aw_icmp_lt (tgt := 13) (q := 12) mX2_add dX2_add_9 rfl (by decide) (fun c_9 => ?_) (fun c_9 => ?_)
  · refine aw_aload_n (q := 14) mX2_add dX2_add_13 rfl rfl ?_
    refine aw_get (t := 2) (ji := 2) (q := 17) mX2_add dX2_add_14 rfl f2_11 rfl (kdE0 he) rfl (lyE2 hl he) ?_
    refine aw_aload_n (q := 18) mX2_add dX2_add_17 rfl rfl ?_
    refine aw_get (t := 0) (ji := 9) (q := 21) mX2_add dX2_add_18 rfl f2_41 rfl (kdE0 he) rfl w1 ?_
    refine aw_aload_n (q := 22) mX2_add dX2_add_21 rfl rfl ?_
    refine aw_aast (q := 23) mX2_add dX2_add_22 rfl (kdE1 he) hk_x (by omega) (by omega) (fun μ_22 e_22 => ?_)
    have hl : Lay n μ_22 := by rw [e_22]; exact laE1 hl he
    refine aw_aload_n (q := 24) mX2_add dX2_add_23 rfl rfl ?_
    refine aw_get (t := 2) (ji := 3) (q := 27) mX2_add dX2_add_24 rfl f2_17 rfl (kdE0 he) rfl (lyE3 hl he) ?_
    refine aw_aload_n (q := 28) mX2_add dX2_add_27 rfl rfl ?_
    refine aw_get (t := 0) (ji := 9) (q := 31) mX2_add dX2_add_28 rfl f2_41 rfl (kdE0 he) rfl (rd_sn e_22 (Or.inl (by omega)) w1) ?_
    refine aw_aload_n (q := 32) mX2_add dX2_add_31 rfl rfl ?_
    refine aw_get (t := 0) (ji := 10) (q := 35) mX2_add dX2_add_32 rfl f2_52 rfl (kdE0 he) rfl (rd_sn e_22 (Or.inl (by omega)) w7) ?_
    refine aw_iast (q := 36) mX2_add dX2_add_35 rfl (kdE2 he) (by omega) (by omega) (fun μ_35 e_35 => ?_)
    have hl : Lay n μ_35 := by rw [e_35]; exact laE2 hl he
    refine aw_aload_n (q := 37) mX2_add dX2_add_36 rfl rfl ?_
    refine aw_dupr (q := 38) mX2_add dX2_add_37 rfl ?_
    refine aw_get (t := 0) (ji := 10) (q := 41) mX2_add dX2_add_38 rfl f2_52 rfl (kdE0 he) rfl (rd_sn e_35 (Or.inl (by omega)) (rd_sn e_22 (Or.inl (by omega)) w7)) ?_
    refine aw_aload_n (q := 42) mX2_add dX2_add_41 rfl rfl ?_
    refine aw_get (t := 0) (ji := 8) (q := 45) mX2_add dX2_add_42 rfl f2_55 rfl hk_x rfl (rd_sn e_35 (Or.inl (by omega)) (rd_sn e_22 (Or.inl (by omega)) rfl)) ?_
    refine aw_aload_n (q := 46) mX2_add dX2_add_45 rfl rfl ?_
    refine aw_get (t := 2) (ji := 0) (q := 49) mX2_add dX2_add_46 rfl f2_33 rfl (kdE0 he) rfl (lyE0 hl he) ?_
    refine aw_get (t := 0) (ji := 5) (q := 52) mX2_add dX2_add_49 rfl f2_47 rfl kd_1 rfl (rd_sn e_35 (Or.inl (by omega)) (rd_sn e_22 (Or.inl (by omega)) rfl)) ?_
    refine aw_iadd (q := 53) mX2_add dX2_add_52 rfl (by omega) (by omega) ?_
    refine aw_iadd (q := 54) mX2_add dX2_add_53 rfl (by omega) (by omega) ?_
    refine aw_put (t := 0) (ji := 10) (q := 57) mX2_add dX2_add_54 rfl f2_52 rfl (kdE0 he) rfl (Or.inl rfl) (Or.inl (by decide)) (fun μ_54 e_54 => ?_)
    have hl : Lay n μ_54 := by rw [e_54]; exact lfE10 hl he
    refine aw_aload_n (q := 58) mX2_add dX2_add_57 rfl rfl ?_
    refine aw_dupr (q := 59) mX2_add dX2_add_58 rfl ?_
    refine aw_get (t := 0) (ji := 9) (q := 62) mX2_add dX2_add_59 rfl f2_41 rfl (kdE0 he) rfl (rd_sn e_54 (Or.inr (by decide)) (rd_sn e_35 (Or.inl (by omega)) (rd_sn e_22 (Or.inl (by omega)) w1))) ?_
    refine aw_iconst (q := 63) mX2_add dX2_add_62 rfl rfl ?_
    refine aw_iadd (q := 64) mX2_add dX2_add_63 rfl (by omega) (by omega) ?_
    refine aw_put (t := 0) (ji := 9) (q := 67) mX2_add dX2_add_64 rfl f2_41 rfl (kdE0 he) rfl (Or.inl rfl) (Or.inl (by decide)) (fun μ_64 e_64 => ?_)
    have hl : Lay n μ_64 := by rw [e_64]; exact lfE9 hl he
    refine aw_vret mX2_add dX2_add_67 ?_
    have hO : Of (Sd e) μ μ_64 := by rw [e_64, e_54, e_35, e_22]; exact (((Of.rf.set (by unfold Sd; omega)).set (by unfold Sd; omega)).set (by unfold Sd; omega)).set (by unfold Sd; omega)
    have hNE := hO.ne (Sd_Sk he)
    have hsh := ed_sh_tr (r := r) (s := s) (hNE.1 5 (by decide) (by decide)) (fun y hy => hNE.2 y 8 (w5 y hy).1.1 (by omega))
    refine ⟨rfl, rfl, hO, ⟨?_, by simp; omega, ?_, ?_, fun y hy => ?_, w6⟩, ?_⟩
    · rw [e_64, am_ss]; simp
    · refine w3.snoc ?_ (fun j hj => ?_)
      · rw [e_64, am_sn (Or.inl (by omega)), e_54, am_sn (Or.inl (by omega)), e_35, am_sn (Or.inl (by omega)), e_22, am_ss]
      · rw [e_64, am_sn (Or.inl (by omega)), e_54, am_sn (Or.inl (by omega)), e_35, am_sn (Or.inl (by omega)), e_22, am_sn (Or.inr (by omega))]
    · rw [ed_sh_app, hsh.1, hsh.2]
      refine w4.snoc ?_ (fun j hj => ?_)
      · rw [ed_sh_len, e_64, am_sn (Or.inl (by omega)), e_54, am_sn (Or.inl (by omega)), e_35, am_ss]
      · rw [ed_sh_len] at hj
        rw [e_64, am_sn (Or.inl (by omega)), e_54, am_sn (Or.inl (by omega)), e_35, am_sn (Or.inr (by omega)), e_22, am_sn (Or.inl (by omega))]
    · rcases List.mem_append.mp hy with hy | hy
      · exact ⟨(w5 y hy).1, (w5 y hy).2.tr hNE (w5 y hy).1⟩
      · have : y = x := by simpa using hy
        rw [this]; exact ⟨hx, hN.tr hNE hx⟩
    · rw [ed_end_snoc, hsh.2, hNE.2 x 8 hx66 (by omega), hNE.1 5 (by decide) (by decide), e_64, am_sn (Or.inr (by decide)), e_54, am_ss]
      omega
  · exact absurd c_9 (by show ¬ ¬ (r.length : Int) < 24; omega)
/-- the level behind a row: each as high as it can stand -/
def ed_lvl (μ : am_M) : Int → Int → List Int → Option Int
  | _, lv, [] => some lv
  | sh, lv, x :: r => if 0 ≤ μ x 9 then (if μ x 9 - sh < lv then none else ed_lvl μ (sh + μ x 8 + μ 1 5) (μ x 9 - sh) r) else ed_lvl μ (sh + μ x 8 + μ 1 5) lv r
theorem rw_sd_le {h g t : Int} {it : rw_I} {r : List rw_I} (hs : rw_sd h g t (it :: r)) : t ≤ h := by
  obtain ⟨h1, h2, h3, -⟩ := hs
  split at h3 <;> omega
theorem ed_sd_iff {μ : am_M} {h T x : Int} (hg : 0 ≤ μ 1 5) (hT : 0 ≤ T) : ∀ {p : List Int} {sh lv : Int}, (∀ y ∈ p, Nc μ y) → (rw_sd h (μ 1 5) (sh + lv) (ed_its μ T (p ++ [x])) ↔ ∃ L, ed_lvl μ sh lv (p ++ [x]) = some L ∧ T ≤ h - ed_end μ sh p - L) := by
  intro p
  induction p with
  | nil =>
    intro sh lv _
    show (0 ≤ T ∧ ¬ (0 ≤ μ x 9 ∧ μ x 9 < sh + lv) ∧ (if 0 ≤ μ x 9 then μ x 9 else sh + lv) + T ≤ h ∧ True) ↔ ∃ L, (if 0 ≤ μ x 9 then (if μ x 9 - sh < lv then none else some (μ x 9 - sh)) else some lv) = some L ∧ T ≤ h - sh - L
    by_cases hf : 0 ≤ μ x 9
    · rw [if_pos hf, if_pos hf]
      by_cases hb : μ x 9 - sh < lv
      · rw [if_pos hb]
        exact ⟨fun z => absurd ⟨hf, by omega⟩ z.2.1, fun ⟨L, z, _⟩ => by cases z⟩
      · rw [if_neg hb]
        exact ⟨fun z => ⟨_, rfl, by omega⟩, fun ⟨L, z, z2⟩ => by cases z; exact ⟨hT, fun q => by omega, by omega, trivial⟩⟩
    · rw [if_neg hf, if_neg hf]
      exact ⟨fun z => ⟨_, rfl, by omega⟩, fun ⟨L, z, z2⟩ => by cases z; exact ⟨hT, fun q => by omega, by omega, trivial⟩⟩
  | cons y p ih =>
    intro sh lv hN
    have n1 := (hN y List.mem_cons_self).1
    have hem : (p ++ [x]).isEmpty = false := by cases p <;> rfl
    have e1 : ed_its μ T (y :: p ++ [x]) = (μ y 8, μ y 9, μ y 1, μ y 11) :: ed_its μ T (p ++ [x]) := by
      show ed_it μ T y (p ++ [x]).isEmpty :: _ = _
      rw [hem]
      rfl
    have key : ∀ lv', rw_sd h (μ 1 5) (sh + lv' + μ y 8 + μ 1 5) (ed_its μ T (p ++ [x])) → sh + lv' + μ y 8 ≤ h := by
      intro lv' hs
      cases hq : ed_its μ T (p ++ [x]) with
      | nil => cases p <;> cases hq
      | cons it r => rw [hq] at hs; have := rw_sd_le hs; omega
    rw [e1]
    show (0 ≤ μ y 8 ∧ ¬ (0 ≤ μ y 9 ∧ μ y 9 < sh + lv) ∧ (if 0 ≤ μ y 9 then μ y 9 else sh + lv) + μ y 8 ≤ h ∧ rw_sd h (μ 1 5) ((if 0 ≤ μ y 9 then μ y 9 else sh + lv) + μ y 8 + μ 1 5) (ed_its μ T (p ++ [x]))) ↔ ∃ L, (if 0 ≤ μ y 9 then (if μ y 9 - sh < lv then none else ed_lvl μ (sh + μ y 8 + μ 1 5) (μ y 9 - sh) (p ++ [x])) else ed_lvl μ (sh + μ y 8 + μ 1 5) lv (p ++ [x])) = some L ∧ T ≤ h - ed_end μ (sh + μ y 8 + μ 1 5) p - L
    by_cases hf : 0 ≤ μ y 9
    · rw [if_pos hf, if_pos hf]
      by_cases hb : μ y 9 - sh < lv
      · rw [if_pos hb]
        exact ⟨fun z => absurd ⟨hf, by omega⟩ z.2.1, fun ⟨L, z, _⟩ => by cases z⟩
      · rw [if_neg hb, ← ih (fun z hz => hN z (List.mem_cons_of_mem _ hz)), show sh + μ y 8 + μ 1 5 + (μ y 9 - sh) = sh + (μ y 9 - sh) + μ y 8 + μ 1 5 by omega]
        have e2 : μ y 9 + μ y 8 + μ 1 5 = sh + (μ y 9 - sh) + μ y 8 + μ 1 5 := by omega
        rw [e2]
        exact ⟨fun z => z.2.2.2, fun z => ⟨by omega, by omega, by have := key _ z; omega, z⟩⟩
    · rw [if_neg hf, if_neg hf, ← ih (fun z hz => hN z (List.mem_cons_of_mem _ hz)), show sh + μ y 8 + μ 1 5 + lv = sh + lv + μ y 8 + μ 1 5 by omega]
      exact ⟨fun z => z.2.2.2, fun z => ⟨by omega, by omega, by have := key _ z; omega, z⟩⟩
/-- the row can stand -/
def ed_can (μ : am_M) (s : Int) (r : List Int) : Prop := ∀ p x, r = p ++ [x] → rw_sd (μ 1 4) (μ 1 5) s (ed_its μ (μ x 8) r) ∨ ∃ c, 0 ≤ c ∧ c < μ x 5 ∧ (μ x 9 = -1 ∧ μ x 0 - μ (x + 1) c ≤ μ 1 4) ∧ rw_sd (μ 1 4) (μ 1 5) s (ed_its μ (μ (x + 1) c) r)
theorem pX2_fitsCut (n : Nat) (μ : am_M) (e x room : Int) (he : e = 18 ∨ e = 25) (hl : Lay n μ) (hx : Nr n x) (hN : Nc μ x) : AC 26 [(2, e), (2, x), (0, room)] n μ (PB (∃ c, 0 ≤ c ∧ c < μ x 5 ∧ μ (x + 1) c ≤ room ∧ μ x 9 = -1 ∧ μ x 0 - μ (x + 1) c ≤ μ 1 4) n μ) := by
  obtain ⟨n1, n2, n3, n4, n5, n6, n7⟩ := id hN
  have hk_x := hx.k
  have hk2_x := hx.c
  have hc_x := hx.l hl
  have F : ∀ (d : Nat) (i : Int), 0 ≤ i → i + d = μ x 5 → (∀ c, 0 ≤ c → c < i → ¬ (μ (x + 1) c ≤ room ∧ μ x 9 = -1 ∧ μ x 0 - μ (x + 1) c ≤ μ 1 4)) → AW none 26 2 [(2, e), (2, x), (0, room), (0, i)] [] n μ (PB (∃ c, 0 ≤ c ∧ c < μ x 5 ∧ μ (x + 1) c ≤ room ∧ μ x 9 = -1 ∧ μ x 0 - μ (x + 1) c ≤ μ 1 4) n μ) := by
    intro d
    induction d with
    | zero =>
      intro i h0 h1 hno
      refine aw_iload_n (q := 3) mX2_fitsCut dX2_fitsCut_2 rfl rfl ?_
      refine aw_aload_n (q := 4) mX2_fitsCut dX2_fitsCut_3 rfl rfl ?_
      refine aw_get (t := 0) (ji := 5) (q := 7) mX2_fitsCut dX2_fitsCut_4 rfl f2_72 rfl hk_x rfl rfl ?_
      refine aw_icmp_ge (tgt := 48) (q := 10) mX2_fitsCut dX2_fitsCut_7 rfl (by decide) (fun c_7 => ?_) (fun c_7 => ?_)
      · refine aw_iconst (q := 49) mX2_fitsCut dX2_fitsCut_48 rfl rfl ?_
        refine aw_zret mX2_fitsCut dX2_fitsCut_49 (by first | exact Or.inl rfl | exact Or.inr rfl | assumption | omega) ?_
        exact ⟨0, rfl, rfl, rfl, Or.inr ⟨rfl, fun ⟨c, k1, k2, k3⟩ => hno c k1 (by omega) k3⟩⟩
      · exact absurd c_7 (by omega)
    | succ d ih =>
      intro i h0 h1 hno
      have hcb := n6 i h0 (by omega)
      have N : ¬ (μ (x + 1) i ≤ room ∧ μ x 9 = -1 ∧ μ x 0 - μ (x + 1) i ≤ μ 1 4) → AW none 26 42 [(2, e), (2, x), (0, room), (0, i)] [] n μ (PB (∃ c, 0 ≤ c ∧ c < μ x 5 ∧ μ (x + 1) c ≤ room ∧ μ x 9 = -1 ∧ μ x 0 - μ (x + 1) c ≤ μ 1 4) n μ) := by
        intro hn
        refine aw_iinc (q := 45) mX2_fitsCut dX2_fitsCut_42 rfl rfl (by decide) (by omega) (by omega) rfl ?_
        refine aw_goto (q := 2) mX2_fitsCut dX2_fitsCut_45 (by decide) ?_
        refine ih (i + 1) (by omega) (by omega) (fun c k1 k2 => ?_)
        by_cases hc : c = i
        · rw [hc]; exact hn
        · exact hno c k1 (by omega)
      refine aw_iload_n (q := 3) mX2_fitsCut dX2_fitsCut_2 rfl rfl ?_
      refine aw_aload_n (q := 4) mX2_fitsCut dX2_fitsCut_3 rfl rfl ?_
      refine aw_get (t := 0) (ji := 5) (q := 7) mX2_fitsCut dX2_fitsCut_4 rfl f2_72 rfl hk_x rfl rfl ?_
      refine aw_icmp_ge (tgt := 48) (q := 10) mX2_fitsCut dX2_fitsCut_7 rfl (by decide) (fun c_7 => ?_) (fun c_7 => ?_)
      · exact absurd c_7 (by omega)
      · refine aw_aload_n (q := 11) mX2_fitsCut dX2_fitsCut_10 rfl rfl ?_
        refine aw_get (t := 2) (ji := 4) (q := 14) mX2_fitsCut dX2_fitsCut_11 rfl f2_75 rfl hk_x rfl hc_x ?_
        refine aw_iload_n (q := 15) mX2_fitsCut dX2_fitsCut_14 rfl rfl ?_
        refine aw_iald (q := 16) mX2_fitsCut dX2_fitsCut_15 rfl hk2_x (by omega) (by show i < 3; omega) rfl ?_
        refine aw_iload_n (q := 17) mX2_fitsCut dX2_fitsCut_16 rfl rfl ?_
        refine aw_icmp_gt (tgt := 42) (q := 20) mX2_fitsCut dX2_fitsCut_17 rfl (by decide) (fun c_17 => ?_) (fun c_17 => ?_)
        · exact N (fun z => by omega)
        · refine aw_aload_n (q := 21) mX2_fitsCut dX2_fitsCut_20 rfl rfl ?_
          refine aw_aload_n (q := 22) mX2_fitsCut dX2_fitsCut_21 rfl rfl ?_
          refine aw_get (t := 2) (ji := 0) (q := 25) mX2_fitsCut dX2_fitsCut_22 rfl f2_33 rfl (kdE0 he) rfl (lyE0 hl he) ?_
          refine aw_get (t := 0) (ji := 4) (q := 28) mX2_fitsCut dX2_fitsCut_25 rfl f2_65 rfl kd_1 rfl rfl ?_
          refine aw_aload_n (q := 29) mX2_fitsCut dX2_fitsCut_28 rfl rfl ?_
          refine aw_get (t := 2) (ji := 4) (q := 32) mX2_fitsCut dX2_fitsCut_29 rfl f2_75 rfl hk_x rfl hc_x ?_
          refine aw_iload_n (q := 33) mX2_fitsCut dX2_fitsCut_32 rfl rfl ?_
          refine aw_iald (q := 34) mX2_fitsCut dX2_fitsCut_33 rfl hk2_x (by omega) (by show i < 3; omega) rfl ?_
          refine aw_v2 (ci := 3) (q := 37) mX2_fitsCut dX2_fitsCut_34 rfl l2_78 k26_34 rfl hk_x rfl rfl rfl (pX3_leavesAtMost n μ x (μ 1 4) (μ (x + 1) i) hk_x (by omega) (by omega)) (kint (fun y μ3 hy => ?_))
          obtain ⟨rfl, hy⟩ := hy
          refine aw_if_eq (tgt := 42) (q := 40) mX2_fitsCut dX2_fitsCut_37 rfl (by decide) (fun c_37 => ?_) (fun c_37 => ?_)
          · exact N (fun z => by
              rcases hy with ⟨y1, -⟩ | ⟨-, y2⟩
              · omega
              · exact y2 z.2)
          · refine aw_iconst (q := 41) mX2_fitsCut dX2_fitsCut_40 rfl rfl ?_
            refine aw_zret mX2_fitsCut dX2_fitsCut_41 (by first | exact Or.inl rfl | exact Or.inr rfl | assumption | omega) ?_
            refine ⟨1, rfl, rfl, rfl, Or.inl ⟨rfl, i, h0, by omega, by omega, ?_⟩⟩
            rcases hy with ⟨-, y2⟩ | ⟨y1, -⟩
            · exact y2
            · exact absurd y1 c_37
  refine AC.of rfl ?_
  refine aw_iconst (q := 1) mX2_fitsCut dX2_fitsCut_0 rfl rfl ?_
  refine aw_istore_n (q := 2) mX2_fitsCut dX2_fitsCut_1 rfl (by decide) rfl ?_
  exact F (μ x 5).toNat 0 (by omega) (by omega) (fun c k1 k2 => by omega)
theorem pX2_fits (n : Nat) (μ : am_M) (e s : Int) (r : List Int) (he : e = 18 ∨ e = 25) (hl : Lay n μ) (hc : Bc μ) (hE : Ew n μ e s r) : AC 25 [(2, e)] n μ (PB (ed_can μ s r) n μ) := by
  obtain ⟨w1, w2, w3, w4, w5, w6⟩ := id hE
  obtain ⟨c1, c2, c3⟩ := id hc
  rcases List.eq_nil_or_concat r with hp | ⟨p, x, hp⟩
  · refine AC.of rfl ?_
    refine aw_aload_n (q := 1) mX2_fits dX2_fits_0 rfl rfl ?_
    refine aw_get (t := 0) (ji := 9) (q := 4) mX2_fits dX2_fits_1 rfl f2_41 rfl (kdE0 he) rfl w1 ?_
    refine aw_if_ne (tgt := 9) (q := 7) mX2_fits dX2_fits_4 rfl (by decide) (fun c_4 => ?_) (fun c_4 => ?_)
    · exact absurd c_4 (by rw [hp]; simp)
    · refine aw_iconst (q := 8) mX2_fits dX2_fits_7 rfl rfl ?_
      refine aw_zret mX2_fits dX2_fits_8 (by first | exact Or.inl rfl | exact Or.inr rfl | assumption | omega) ?_
      exact ⟨1, rfl, rfl, rfl, Or.inl ⟨rfl, fun p x h => by rw [hp] at h; cases p <;> cases h⟩⟩
  rw [List.concat_eq_append] at hp
  have hrl : r.length = p.length + 1 := by rw [hp]; simp
  obtain ⟨hx, hxc⟩ := w5 x (by rw [hp]; simp)
  obtain ⟨n1, n2, n3, n4, n5, n6, n7⟩ := id hxc
  have hk_x := hx.k
  have hpN : ∀ y ∈ p, Nc μ y := fun y hy => (w5 y (by rw [hp]; exact List.mem_append_left _ hy)).2
  have ei : (r.length : Int) - 1 = (p.length : Int) := by omega
  have erow : μ (e + 1) ((r.length : Int) - 1) = x := by rw [ei]; exact Ar.mid (s := []) (by rw [← hp]; exact w3)
  have esh : μ (e + 2) ((r.length : Int) - 1) = ed_end μ s p := by
    have h9 := w4
    rw [hp, ed_sh_app] at h9
    have := Ar.mid (p := ed_sh μ s p) (x := ed_end μ s p) (s := []) h9
    rw [ed_sh_len] at this
    rw [ei]
    exact this
  have heb := ed_end_b c2 (p := p) (s := s) hpN
  have hiff : ∀ T, 0 ≤ T → (rw_sd (μ 1 4) (μ 1 5) s (ed_its μ T r) ↔ ∃ L, ed_lvl μ s 0 r = some L ∧ T ≤ μ 1 4 - ed_end μ s p - L) := by
    intro T hT
    have := ed_sd_iff (μ := μ) (h := μ 1 4) (T := T) (x := x) c2.1 hT (p := p) (sh := s) (lv := 0) hpN
    rw [← hp, show s + 0 = s by omega] at this
    exact this
  have hcan : ed_can μ s r ↔ (rw_sd (μ 1 4) (μ 1 5) s (ed_its μ (μ x 8) r) ∨ ∃ c, 0 ≤ c ∧ c < μ x 5 ∧ (μ x 9 = -1 ∧ μ x 0 - μ (x + 1) c ≤ μ 1 4) ∧ rw_sd (μ 1 4) (μ 1 5) s (ed_its μ (μ (x + 1) c) r)) := by
    constructor
    · intro h; exact h p x hp
    · intro h p2 x2 h2
      have e2 := h2
      rw [hp] at e2
      obtain ⟨-, e3⟩ := List.append_inj' e2 rfl
      have : x = x2 := by simpa using e3
      rw [← this]
      exact h
  have F : ∀ (suf pre : List Int) (lv : Int) (v3 : am_V), r = pre ++ suf → ed_lvl μ s 0 r = ed_lvl μ (ed_end μ s pre) lv suf → (0 ≤ lv ∧ lv ≤ 400) → AW none 25 13 [(2, e), (0, lv), (0, (pre.length : Int)), v3] [] n μ (PB (ed_can μ s r) n μ) := by
    intro suf
    induction suf with
    | nil =>
      intro pre lv v3 hr hlv hb
      have hpl : r.length = pre.length := by rw [hr]; simp
      have hlv : ed_lvl μ s 0 r = some lv := hlv
      refine aw_iload_n (q := 14) mX2_fits dX2_fits_13 rfl rfl ?_
      refine aw_aload_n (q := 15) mX2_fits dX2_fits_14 rfl rfl ?_
      refine aw_get (t := 0) (ji := 9) (q := 18) mX2_fits dX2_fits_15 rfl f2_41 rfl (kdE0 he) rfl w1 ?_
      refine aw_icmp_ge (tgt := 65) (q := 21) mX2_fits dX2_fits_18 rfl (by decide) (fun c_18 => ?_) (fun c_18 => ?_)
      · have hfc := pX2_fitsCut n μ e x (μ 1 4 - ed_end μ s p - lv) he hl hx hxc
        refine aw_aload_n (q := 66) mX2_fits dX2_fits_65 rfl rfl ?_
        refine aw_get (t := 2) (ji := 0) (q := 69) mX2_fits dX2_fits_66 rfl f2_33 rfl (kdE0 he) rfl (lyE0 hl he) ?_
        refine aw_get (t := 0) (ji := 4) (q := 72) mX2_fits dX2_fits_69 rfl f2_65 rfl kd_1 rfl rfl ?_
        refine aw_aload_n (q := 73) mX2_fits dX2_fits_72 rfl rfl ?_
        refine aw_get (t := 2) (ji := 3) (q := 76) mX2_fits dX2_fits_73 rfl f2_17 rfl (kdE0 he) rfl (lyE3 hl he) ?_
        refine aw_aload_n (q := 77) mX2_fits dX2_fits_76 rfl rfl ?_
        refine aw_get (t := 0) (ji := 9) (q := 80) mX2_fits dX2_fits_77 rfl f2_41 rfl (kdE0 he) rfl w1 ?_
        refine aw_iconst (q := 81) mX2_fits dX2_fits_80 rfl rfl ?_
        refine aw_isub (q := 82) mX2_fits dX2_fits_81 rfl (by omega) (by omega) ?_
        refine aw_iald (q := 83) mX2_fits dX2_fits_82 rfl (kdE2 he) (by omega) (by omega) esh ?_
        refine aw_isub (q := 84) mX2_fits dX2_fits_83 rfl (by omega) (by omega) ?_
        refine aw_iload_n (q := 85) mX2_fits dX2_fits_84 rfl rfl ?_
        refine aw_isub (q := 86) mX2_fits dX2_fits_85 rfl (by omega) (by omega) ?_
        refine aw_istore_n (q := 87) mX2_fits dX2_fits_86 rfl (by decide) rfl ?_
        refine aw_aload_n (q := 88) mX2_fits dX2_fits_87 rfl rfl ?_
        refine aw_get (t := 2) (ji := 2) (q := 91) mX2_fits dX2_fits_88 rfl f2_11 rfl (kdE0 he) rfl (lyE2 hl he) ?_
        refine aw_aload_n (q := 92) mX2_fits dX2_fits_91 rfl rfl ?_
        refine aw_get (t := 0) (ji := 9) (q := 95) mX2_fits dX2_fits_92 rfl f2_41 rfl (kdE0 he) rfl w1 ?_
        refine aw_iconst (q := 96) mX2_fits dX2_fits_95 rfl rfl ?_
        refine aw_isub (q := 97) mX2_fits dX2_fits_96 rfl (by omega) (by omega) ?_
        refine aw_aald (q := 98) mX2_fits dX2_fits_97 rfl (kdE1 he) (by omega) (by omega) erow ?_
        refine aw_get (t := 0) (ji := 8) (q := 101) mX2_fits dX2_fits_98 rfl f2_55 rfl hk_x rfl rfl ?_
        refine aw_iload_n (q := 102) mX2_fits dX2_fits_101 rfl rfl ?_
        refine aw_icmp_le (tgt := 124) (q := 105) mX2_fits dX2_fits_102 rfl (by decide) (fun c_102 => ?_) (fun c_102 => ?_)
        · refine aw_iconst (q := 125) mX2_fits dX2_fits_124 rfl rfl ?_
          refine aw_goto (q := 129) mX2_fits dX2_fits_125 (by decide) ?_
          refine aw_zret mX2_fits dX2_fits_129 (by first | exact Or.inl rfl | exact Or.inr rfl | assumption | omega) ?_
          exact ⟨1, rfl, rfl, rfl, Or.inl ⟨rfl, hcan.mpr (Or.inl ((hiff _ (by omega)).mpr ⟨lv, hlv, by omega⟩))⟩⟩
        · refine aw_aload_n (q := 106) mX2_fits dX2_fits_105 rfl rfl ?_
          refine aw_aload_n (q := 107) mX2_fits dX2_fits_106 rfl rfl ?_
          refine aw_get (t := 2) (ji := 2) (q := 110) mX2_fits dX2_fits_107 rfl f2_11 rfl (kdE0 he) rfl (lyE2 hl he) ?_
          refine aw_aload_n (q := 111) mX2_fits dX2_fits_110 rfl rfl ?_
          refine aw_get (t := 0) (ji := 9) (q := 114) mX2_fits dX2_fits_111 rfl f2_41 rfl (kdE0 he) rfl w1 ?_
          refine aw_iconst (q := 115) mX2_fits dX2_fits_114 rfl rfl ?_
          refine aw_isub (q := 116) mX2_fits dX2_fits_115 rfl (by omega) (by omega) ?_
          refine aw_aald (q := 117) mX2_fits dX2_fits_116 rfl (kdE1 he) (by omega) (by omega) erow ?_
          refine aw_iload_n (q := 118) mX2_fits dX2_fits_117 rfl rfl ?_
          refine aw_v2 (ci := 2) (q := 121) mX2_fits dX2_fits_118 rfl l2_68 k25_26 rfl (kdE0 he) rfl rfl rfl (hfc) (kint (fun y μ3 hy => ?_))
          obtain ⟨rfl, hy⟩ := hy
          refine aw_if_eq (tgt := 128) (q := 124) mX2_fits dX2_fits_121 rfl (by decide) (fun c_121 => ?_) (fun c_121 => ?_)
          · refine aw_iconst (q := 129) mX2_fits dX2_fits_128 rfl rfl ?_
            refine aw_zret mX2_fits dX2_fits_129 (by first | exact Or.inl rfl | exact Or.inr rfl | assumption | omega) ?_
            refine ⟨0, rfl, rfl, rfl, Or.inr ⟨rfl, fun z => ?_⟩⟩
            rcases hy with ⟨y1, -⟩ | ⟨-, hy2⟩
            · omega
            rcases hcan.mp z with z | ⟨c, k1, k2, k3, k4⟩
            · obtain ⟨L, l1, l2⟩ := (hiff _ (by omega)).mp z
              rw [hlv] at l1
              cases l1
              omega
            · have hcb := n6 c k1 k2
              obtain ⟨L, l1, l2⟩ := (hiff _ (by omega)).mp k4
              rw [hlv] at l1
              cases l1
              exact hy2 ⟨c, k1, k2, l2, k3⟩
          · refine aw_iconst (q := 125) mX2_fits dX2_fits_124 rfl rfl ?_
            refine aw_goto (q := 129) mX2_fits dX2_fits_125 (by decide) ?_
            refine aw_zret mX2_fits dX2_fits_129 (by first | exact Or.inl rfl | exact Or.inr rfl | assumption | omega) ?_
            refine ⟨1, rfl, rfl, rfl, Or.inl ⟨rfl, hcan.mpr (Or.inr ?_)⟩⟩
            rcases hy with ⟨-, c, k1, k2, k3, k4⟩ | ⟨y1, -⟩
            · have hcb := n6 c k1 k2
              exact ⟨c, k1, k2, k4, (hiff _ (by omega)).mpr ⟨lv, hlv, k3⟩⟩
            · exact absurd y1 c_121
      · exact absurd c_18 (by omega)
    | cons y suf ih =>
      intro pre lv v3 hr hlv hb
      have hpl : r.length = pre.length + suf.length + 1 := by rw [hr]; simp; omega
      obtain ⟨hy0, hyc⟩ := w5 y (by rw [hr]; simp)
      obtain ⟨m1, m2, -⟩ := id hyc
      have hk_y := hy0.k
      have er : μ (e + 1) (pre.length : Int) = y := Ar.mid (by rw [← hr]; exact w3)
      have es : μ (e + 2) (pre.length : Int) = ed_end μ s pre := by
        have h9 := w4
        rw [hr, ed_sh_app] at h9
        have := Ar.mid (p := ed_sh μ s pre) (x := ed_end μ s pre) h9
        rw [ed_sh_len] at this
        exact this
      have hsb := ed_end_b c2 (p := pre) (s := s) (fun z hz => (w5 z (by rw [hr]; exact List.mem_append_left _ hz)).2)
      have hlv2 : ed_lvl μ (ed_end μ s pre) lv (y :: suf) = if 0 ≤ μ y 9 then (if μ y 9 - ed_end μ s pre < lv then none else ed_lvl μ (ed_end μ s (pre ++ [y])) (μ y 9 - ed_end μ s pre) suf) else ed_lvl μ (ed_end μ s (pre ++ [y])) lv suf := by rw [ed_end_snoc]; rfl
      rw [hlv2] at hlv
      have K : ∀ (lv' : Int) (w3' : am_V), ed_lvl μ s 0 r = ed_lvl μ (ed_end μ s (pre ++ [y])) lv' suf → (0 ≤ lv' ∧ lv' ≤ 400) → AW none 25 59 [(2, e), (0, lv'), (0, (pre.length : Int)), w3'] [] n μ (PB (ed_can μ s r) n μ) := by
        intro lv' w3' k1 k2
        have h9 := ih (pre ++ [y]) lv' w3' (by rw [hr]; simp) k1 k2
        refine aw_iinc (q := 62) mX2_fits dX2_fits_59 rfl rfl (by decide) (by omega) (by omega) rfl ?_
        refine aw_goto (q := 13) mX2_fits dX2_fits_62 (by decide) ?_
        rw [List.length_append] at h9
        exact h9
      refine aw_iload_n (q := 14) mX2_fits dX2_fits_13 rfl rfl ?_
      refine aw_aload_n (q := 15) mX2_fits dX2_fits_14 rfl rfl ?_
      refine aw_get (t := 0) (ji := 9) (q := 18) mX2_fits dX2_fits_15 rfl f2_41 rfl (kdE0 he) rfl w1 ?_
      refine aw_icmp_ge (tgt := 65) (q := 21) mX2_fits dX2_fits_18 rfl (by decide) (fun c_18 => ?_) (fun c_18 => ?_)
      · exact absurd c_18 (by omega)
      · refine aw_aload_n (q := 22) mX2_fits dX2_fits_21 rfl rfl ?_
        refine aw_get (t := 2) (ji := 2) (q := 25) mX2_fits dX2_fits_22 rfl f2_11 rfl (kdE0 he) rfl (lyE2 hl he) ?_
        refine aw_iload_n (q := 26) mX2_fits dX2_fits_25 rfl rfl ?_
        refine aw_aald (q := 27) mX2_fits dX2_fits_26 rfl (kdE1 he) (by omega) (by omega) er ?_
        refine aw_v0 (ci := 3) (q := 30) mX2_fits dX2_fits_27 rfl l2_58 k25_33 rfl hk_y rfl rfl rfl (pX3_isFixed n μ y hk_y) (kint (fun z μ3 hz => ?_))
        obtain ⟨rfl, hz⟩ := hz
        refine aw_if_eq (tgt := 59) (q := 33) mX2_fits dX2_fits_30 rfl (by decide) (fun c_30 => ?_) (fun c_30 => ?_)
        · have hnf : ¬ 0 ≤ μ3 y 9 := by
            rcases hz with ⟨y1, -⟩ | ⟨-, y2⟩
            · omega
            · have := Decidable.not_not.mp y2; omega
          rw [if_neg hnf] at hlv
          exact K lv _ hlv hb
        · have hf : 0 ≤ μ3 y 9 := by
            rcases hz with ⟨-, y2⟩ | ⟨y1, -⟩
            · omega
            · exact absurd y1 c_30
          rw [if_pos hf] at hlv
          refine aw_aload_n (q := 34) mX2_fits dX2_fits_33 rfl rfl ?_
          refine aw_get (t := 2) (ji := 2) (q := 37) mX2_fits dX2_fits_34 rfl f2_11 rfl (kdE0 he) rfl (lyE2 hl he) ?_
          refine aw_iload_n (q := 38) mX2_fits dX2_fits_37 rfl rfl ?_
          refine aw_aald (q := 39) mX2_fits dX2_fits_38 rfl (kdE1 he) (by omega) (by omega) er ?_
          refine aw_get (t := 0) (ji := 9) (q := 42) mX2_fits dX2_fits_39 rfl f2_62 rfl hk_y rfl rfl ?_
          refine aw_aload_n (q := 43) mX2_fits dX2_fits_42 rfl rfl ?_
          refine aw_get (t := 2) (ji := 3) (q := 46) mX2_fits dX2_fits_43 rfl f2_17 rfl (kdE0 he) rfl (lyE3 hl he) ?_
          refine aw_iload_n (q := 47) mX2_fits dX2_fits_46 rfl rfl ?_
          refine aw_iald (q := 48) mX2_fits dX2_fits_47 rfl (kdE2 he) (by omega) (by omega) es ?_
          refine aw_isub (q := 49) mX2_fits dX2_fits_48 rfl (by omega) (by omega) ?_
          refine aw_istore_n (q := 50) mX2_fits dX2_fits_49 rfl (by decide) rfl ?_
          refine aw_iload_n (q := 51) mX2_fits dX2_fits_50 rfl rfl ?_
          refine aw_iload_n (q := 52) mX2_fits dX2_fits_51 rfl rfl ?_
          refine aw_icmp_ge (tgt := 57) (q := 55) mX2_fits dX2_fits_52 rfl (by decide) (fun c_52 => ?_) (fun c_52 => ?_)
          · rw [if_neg (by omega)] at hlv
            refine aw_iload_n (q := 58) mX2_fits dX2_fits_57 rfl rfl ?_
            refine aw_istore_n (q := 59) mX2_fits dX2_fits_58 rfl (by decide) rfl ?_
            exact K _ _ hlv (by omega)
          · rw [if_pos (by omega)] at hlv
            refine aw_iconst (q := 56) mX2_fits dX2_fits_55 rfl rfl ?_
            refine aw_zret mX2_fits dX2_fits_56 (by first | exact Or.inl rfl | exact Or.inr rfl | assumption | omega) ?_
            refine ⟨0, rfl, rfl, rfl, Or.inr ⟨rfl, fun z => ?_⟩⟩
            rcases hcan.mp z with z | ⟨c, k1, k2, k3, k4⟩
            · obtain ⟨L, l1, l2⟩ := (hiff _ (by omega)).mp z
              rw [hlv] at l1
              cases l1
            · have hcb := n6 c k1 k2
              obtain ⟨L, l1, l2⟩ := (hiff _ (by omega)).mp k4
              rw [hlv] at l1
              cases l1
  refine AC.of rfl ?_
  refine aw_aload_n (q := 1) mX2_fits dX2_fits_0 rfl rfl ?_
  refine aw_get (t := 0) (ji := 9) (q := 4) mX2_fits dX2_fits_1 rfl f2_41 rfl (kdE0 he) rfl w1 ?_
  refine aw_if_ne (tgt := 9) (q := 7) mX2_fits dX2_fits_4 rfl (by decide) (fun c_4 => ?_) (fun c_4 => ?_)
  · refine aw_iconst (q := 10) mX2_fits dX2_fits_9 rfl rfl ?_
    refine aw_istore_n (q := 11) mX2_fits dX2_fits_10 rfl (by decide) rfl ?_
    refine aw_iconst (q := 12) mX2_fits dX2_fits_11 rfl rfl ?_
    refine aw_istore_n (q := 13) mX2_fits dX2_fits_12 rfl (by decide) rfl ?_
    exact F r [] 0 _ rfl rfl (by omega)
  · exact absurd c_4 (by omega)

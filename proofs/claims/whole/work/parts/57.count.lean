/-! the class's Breaks: what is asked of the pages -/
theorem pX1_hasPage (n : Nat) (μ : am_M) (p : Int) (hl : Lay n μ) : AC 9 [(2, 4), (0, p)] n μ (PB (0 ≤ p ∧ p < μ 4 3) n μ) := by
  refine AC.of rfl ?_
  refine aw_iload_n (q := 1) mX1_hasPage dX1_hasPage_0 rfl rfl ?_
  refine aw_if_lt (tgt := 16) (q := 4) mX1_hasPage dX1_hasPage_1 rfl (by decide) (fun c_1 => ?_) (fun c_1 => ?_)
  · refine aw_iconst (q := 17) mX1_hasPage dX1_hasPage_16 rfl rfl ?_
    refine aw_zret mX1_hasPage dX1_hasPage_17 (by first | exact Or.inl rfl | exact Or.inr rfl | assumption | omega) ?_
    exact ⟨0, rfl, rfl, rfl, Or.inr ⟨rfl, by omega⟩⟩
  · refine aw_iload_n (q := 5) mX1_hasPage dX1_hasPage_4 rfl rfl ?_
    refine aw_aload_n (q := 6) mX1_hasPage dX1_hasPage_5 rfl rfl ?_
    refine aw_get (t := 0) (ji := 3) (q := 9) mX1_hasPage dX1_hasPage_6 rfl f1_65 rfl kd_4 rfl rfl ?_
    refine aw_icmp_ge (tgt := 16) (q := 12) mX1_hasPage dX1_hasPage_9 rfl (by decide) (fun c_9 => ?_) (fun c_9 => ?_)
    · refine aw_iconst (q := 17) mX1_hasPage dX1_hasPage_16 rfl rfl ?_
      refine aw_zret mX1_hasPage dX1_hasPage_17 (by first | exact Or.inl rfl | exact Or.inr rfl | assumption | omega) ?_
      exact ⟨0, rfl, rfl, rfl, Or.inr ⟨rfl, by omega⟩⟩
    · refine aw_iconst (q := 13) mX1_hasPage dX1_hasPage_12 rfl rfl ?_
      refine aw_goto (q := 17) mX1_hasPage dX1_hasPage_13 (by decide) ?_
      refine aw_zret mX1_hasPage dX1_hasPage_17 (by first | exact Or.inl rfl | exact Or.inr rfl | assumption | omega) ?_
      exact ⟨1, rfl, rfl, rfl, Or.inl ⟨rfl, by omega⟩⟩
theorem pX6_within (n : Nat) (μ : am_M) (x a b : Int) : AC 84 [(0, x), (0, a), (0, b)] n μ (PB (a ≤ x ∧ x ≤ b) n μ) := by
  refine AC.of rfl ?_
  refine aw_iload_n (q := 1) mX6_within dX6_within_0 rfl rfl ?_
  refine aw_iload_n (q := 2) mX6_within dX6_within_1 rfl rfl ?_
  refine aw_icmp_lt (tgt := 14) (q := 5) mX6_within dX6_within_2 rfl (by decide) (fun c_2 => ?_) (fun c_2 => ?_)
  · refine aw_iconst (q := 15) mX6_within dX6_within_14 rfl rfl ?_
    refine aw_zret mX6_within dX6_within_15 (by first | exact Or.inl rfl | exact Or.inr rfl | assumption | omega) ?_
    exact ⟨0, rfl, rfl, rfl, Or.inr ⟨rfl, by omega⟩⟩
  · refine aw_iload_n (q := 6) mX6_within dX6_within_5 rfl rfl ?_
    refine aw_iload_n (q := 7) mX6_within dX6_within_6 rfl rfl ?_
    refine aw_icmp_gt (tgt := 14) (q := 10) mX6_within dX6_within_7 rfl (by decide) (fun c_7 => ?_) (fun c_7 => ?_)
    · refine aw_iconst (q := 15) mX6_within dX6_within_14 rfl rfl ?_
      refine aw_zret mX6_within dX6_within_15 (by first | exact Or.inl rfl | exact Or.inr rfl | assumption | omega) ?_
      exact ⟨0, rfl, rfl, rfl, Or.inr ⟨rfl, by omega⟩⟩
    · refine aw_iconst (q := 11) mX6_within dX6_within_10 rfl rfl ?_
      refine aw_goto (q := 15) mX6_within dX6_within_11 (by decide) ?_
      refine aw_zret mX6_within dX6_within_15 (by first | exact Or.inl rfl | exact Or.inr rfl | assumption | omega) ?_
      exact ⟨1, rfl, rfl, rfl, Or.inl ⟨rfl, by omega⟩⟩
/-- the pages stand: what the class has of them, in m's words -/
theorem PgR_end {m : am_M} {P p : Int} (hch : Chain m P) (p0 : 0 ≤ p) (p1 : p < P) : m 45 p + m 46 p ≤ frP m P := frP_ge hch.2.2.1 (P - p - 1).toNat p p0 (by omega)
theorem md_hr_pre {m : am_M} {a b : Int} (h0 : 0 ≤ a) (h1 : a ≤ b) : md_hr m 0 b.toNat = md_hr m 0 a.toNat ++ md_hr m a (b - a).toNat := by
  have := md_hr_app (μ := m) (fr := 0) (m := a.toNat) (b - a).toNat
  rw [show (0 : Int) + ((a.toNat : Nat) : Int) = a by omega] at this
  rw [← this]
  congr 1
  omega
/-- the notes of a page, in the class's array -/
theorem Cls.row {n : Nat} {μ m : am_M} (hB : Bk μ) (hb : BE μ m) (hM : MS m) (hCl : Cls μ m) {p : Int} (p0 : 0 ≤ p) (p1 : p < m 32 23) : ∃ A B, md_hr m 0 (m 32 7).toNat = A ++ md_hr m (m 45 p) (m 46 p).toNat ++ B ∧ μ 10 p = (A.length : Int) ∧ μ 11 p = ((A ++ md_hr m (m 45 p) (m 46 p).toNat).length : Int) ∧ (∀ k ∈ md_hr m (m 45 p) (m 46 p).toNat, (0 ≤ k ∧ k < μ 32 8) ∧ μ (nf k) 11 = m 49 (m 34 k) ∧ μ (nf k) 12 = m 51 k ∧ μ (nf k) 13 = m 52 k ∧ μ (nf k) 14 = m 54 k) := by
  obtain ⟨hch, hz0, hz1, hend⟩ := id hM
  obtain ⟨l1, l2, l3, l4, l5, l6, l7⟩ := hCl
  obtain ⟨q1, q2, q3, q4, q5, q6, q7⟩ := l3 p p0 p1
  have hR := hch.2.2.1 p p0 p1
  obtain ⟨g1, g2, -⟩ := hR
  have hle := PgR_end hch p0 p1
  have hfl := (hch.2.2.2 (m 32 23) (by omega) (Int.le_refl _)).2.2.2.2
  have e1 := md_hr_pre (m := m) (a := m 45 p + m 46 p) (b := m 32 7) (by omega) (by omega)
  have e2 := md_hr_pre (m := m) (a := m 45 p) (b := m 45 p + m 46 p) (by omega) (by omega)
  rw [show m 45 p + m 46 p - m 45 p = m 46 p by omega] at e2
  have e3 := md_hr_pre (m := m) (a := m 45 p + m 46 p) (b := frP m (m 32 23)) (by omega) hle
  refine ⟨md_hr m 0 (m 45 p).toNat, _, by rw [e1, e2], q6, by rw [q7, e2], fun k hk => ?_⟩
  have hkm := md_hr_mem hk
  refine ⟨by rw [← hb.1 8 (by decide) (by decide)]; omega, l5 k ?_⟩
  rw [e3, e2]
  simp [hk]
def md_rn (m : am_M) (s g : Int) : Int → List Int → Int
  | _, [] => 0
  | near, k :: r => if m 51 k = s then (if m 52 k = near then 0 else 1) + md_rn m s g (m 52 k + m 53 k + g) r else md_rn m s g near r
def md_mv (m : am_M) : List Int → Int
  | [] => 0
  | k :: r => (if m 52 k = m 49 (m 34 k) then 0 else 1) + md_mv m r
theorem pX1_countMoved (n : Nat) (μ m : am_M) (p : Int) (hl : Lay n μ) (hB : Bk μ) (hC : Cb n μ) (hb : BE μ m) (hM : MS m) (hCl : Cls μ m) (p0 : 0 ≤ p) (p1 : p < m 32 23) : AC 13 [(2, 4), (0, p)] n μ (PU (0, md_mv m (md_hr m (m 45 p) (m 46 p).toNat)) n μ) := by
  obtain ⟨A, B, h1, h2, h3, h4⟩ := Cls.row (n := n) hB hb hM hCl p0 p1
  obtain ⟨l1, l2, l3, l4, l5, l6, l7⟩ := id hCl
  have hQ := hM.pages (hB.tr hb)
  have hlen : (md_hr m 0 (m 32 7).toNat).length ≤ 24 := Nat.le_trans md_hr_le (by have := (hB.tr hb).2.2.2.2.2.2.1; omega)
  obtain ⟨H, hH⟩ : ∃ H, H = md_hr m (m 45 p) (m 46 p).toNat := ⟨_, rfl⟩
  rw [← hH] at h1 h3 h4 ⊢
  rw [h1] at hlen
  have hlen2 : (A ++ H ++ B).length = A.length + H.length + B.length := by simp; omega
  have hlen3 : (A ++ H).length = A.length + H.length := List.length_append
  have F : ∀ (suf pre : List Int) (x : Int), H = pre ++ suf → (0 ≤ x ∧ x ≤ (pre.length : Int)) → AW none 13 19 [(2, 4), (0, p), (0, x), (0, (A.length : Int) + (pre.length : Int))] [] n μ (PU (0, x + md_mv m suf) n μ) := by
    intro suf
    induction suf with
    | nil =>
      intro pre x hps hx
      have hpl : H.length = pre.length := by rw [hps]; simp
      refine aw_iload_n (q := 20) mX1_countMoved dX1_countMoved_19 rfl rfl ?_
      refine aw_aload_n (q := 21) mX1_countMoved dX1_countMoved_20 rfl rfl ?_
      refine aw_get (t := 2) (ji := 9) (q := 24) mX1_countMoved dX1_countMoved_21 rfl f1_37 rfl kd_4 rfl (ly_4_9 hl) ?_
      refine aw_iload_n (q := 25) mX1_countMoved dX1_countMoved_24 rfl rfl ?_
      refine aw_iald (q := 26) mX1_countMoved dX1_countMoved_25 rfl kd_11 (by omega) (by omega) h3 ?_
      refine aw_icmp_ge (tgt := 65) (q := 29) mX1_countMoved dX1_countMoved_26 rfl (by decide) (fun c_26 => ?_) (fun c_26 => ?_)
      · refine aw_iload_n (q := 66) mX1_countMoved dX1_countMoved_65 rfl rfl ?_
        refine aw_iret mX1_countMoved dX1_countMoved_66 ?_
        exact ⟨by show some ((0 : Nat), x) = some (0, x + 0); rw [show x + 0 = x by omega], rfl, rfl⟩
      · exact absurd c_26 (by omega)
    | cons k suf ih =>
      intro pre x hps hx
      have hpl : H.length = pre.length + suf.length + 1 := by rw [hps]; simp; omega
      obtain ⟨⟨k0, k1⟩, g1, g2, g3, g4⟩ := h4 k (by rw [hps]; simp)
      have hkr : Nr n (nf k) := nf_r hC k0 k1
      obtain ⟨r, hr⟩ : ∃ r, r = nf k := ⟨_, rfl⟩
      rw [← hr] at hkr g1 g2 g3
      have hk_r := hkr.k
      have er : μ 16 ((A.length : Int) + (pre.length : Int)) = r := by
        have h9 := l6
        rw [h1, hps, show A ++ (pre ++ k :: suf) ++ B = (A ++ pre) ++ k :: (suf ++ B) by simp, List.map_append, List.map_cons] at h9
        have := Ar.mid h9
        rw [List.length_map, List.length_append] at this
        rw [hr, ← this]
        congr 1
      have hmv : md_mv m (k :: suf) = (if m 52 k = m 49 (m 34 k) then 0 else 1) + md_mv m suf := rfl
      have K : ∀ y, y = x + (if m 52 k = m 49 (m 34 k) then 0 else 1) → (0 ≤ y ∧ y ≤ (pre.length : Int) + 1) → AW none 13 59 [(2, 4), (0, p), (0, y), (0, (A.length : Int) + (pre.length : Int))] [] n μ (PU (0, x + md_mv m (k :: suf)) n μ) := by
        intro y hy hyb
        have h9 := ih (pre ++ [k]) y (by rw [hps]; simp) (by simp; omega)
        refine aw_iinc (q := 62) mX1_countMoved dX1_countMoved_59 rfl rfl (by decide) (by omega) (by omega) rfl ?_
        refine aw_goto (q := 19) mX1_countMoved dX1_countMoved_62 (by decide) ?_
        rw [List.length_append] at h9
        rw [show (A.length : Int) + (pre.length : Int) + 1 = (A.length : Int) + ((pre.length + [k].length : Nat) : Int) by simp; omega, hmv, show x + ((if m 52 k = m 49 (m 34 k) then 0 else 1) + md_mv m suf) = y + md_mv m suf by omega]
        exact h9
      refine aw_iload_n (q := 20) mX1_countMoved dX1_countMoved_19 rfl rfl ?_
      refine aw_aload_n (q := 21) mX1_countMoved dX1_countMoved_20 rfl rfl ?_
      refine aw_get (t := 2) (ji := 9) (q := 24) mX1_countMoved dX1_countMoved_21 rfl f1_37 rfl kd_4 rfl (ly_4_9 hl) ?_
      refine aw_iload_n (q := 25) mX1_countMoved dX1_countMoved_24 rfl rfl ?_
      refine aw_iald (q := 26) mX1_countMoved dX1_countMoved_25 rfl kd_11 (by omega) (by omega) h3 ?_
      refine aw_icmp_ge (tgt := 65) (q := 29) mX1_countMoved dX1_countMoved_26 rfl (by decide) (fun c_26 => ?_) (fun c_26 => ?_)
      · exact absurd c_26 (by omega)
      · refine aw_aload_n (q := 30) mX1_countMoved dX1_countMoved_29 rfl rfl ?_
        refine aw_get (t := 2) (ji := 12) (q := 33) mX1_countMoved dX1_countMoved_30 rfl f1_48 rfl kd_4 rfl (ly_4_12 hl) ?_
        refine aw_get (t := 2) (ji := 0) (q := 36) mX1_countMoved dX1_countMoved_33 rfl f1_123 rfl kd_15 rfl (ly_15_0 hl) ?_
        refine aw_iload_n (q := 37) mX1_countMoved dX1_countMoved_36 rfl rfl ?_
        refine aw_aald (q := 38) mX1_countMoved dX1_countMoved_37 rfl kd_16 (by omega) (by omega) er ?_
        refine aw_get (t := 0) (ji := 13) (q := 41) mX1_countMoved dX1_countMoved_38 rfl f1_151 rfl hk_r rfl g3 ?_
        refine aw_aload_n (q := 42) mX1_countMoved dX1_countMoved_41 rfl rfl ?_
        refine aw_get (t := 2) (ji := 12) (q := 45) mX1_countMoved dX1_countMoved_42 rfl f1_48 rfl kd_4 rfl (ly_4_12 hl) ?_
        refine aw_get (t := 2) (ji := 0) (q := 48) mX1_countMoved dX1_countMoved_45 rfl f1_123 rfl kd_15 rfl (ly_15_0 hl) ?_
        refine aw_iload_n (q := 49) mX1_countMoved dX1_countMoved_48 rfl rfl ?_
        refine aw_aald (q := 50) mX1_countMoved dX1_countMoved_49 rfl kd_16 (by omega) (by omega) er ?_
        refine aw_get (t := 0) (ji := 11) (q := 53) mX1_countMoved dX1_countMoved_50 rfl f1_132 rfl hk_r rfl g1 ?_
        refine aw_icmp_eq (tgt := 59) (q := 56) mX1_countMoved dX1_countMoved_53 rfl (by decide) (fun c_53 => ?_) (fun c_53 => ?_)
        · exact K x (by rw [if_pos c_53]; omega) (by omega)
        · refine aw_iinc (q := 59) mX1_countMoved dX1_countMoved_56 rfl rfl (by decide) (by omega) (by omega) rfl ?_
          exact K (x + 1) (by rw [if_neg c_53]) (by omega)
  refine AC.of rfl ?_
  refine aw_aload_n (q := 1) mX1_countMoved dX1_countMoved_0 rfl rfl ?_
  refine aw_iload_n (q := 2) mX1_countMoved dX1_countMoved_1 rfl rfl ?_
  refine aw_v1 (ci := 1) (q := 5) mX1_countMoved dX1_countMoved_2 rfl l1_138 k13_9 rfl kd_4 rfl rfl rfl (pX1_hasPage n μ p hl) (kint (fun y μ3 hy => ?_))
  obtain ⟨hm3, hy⟩ := hy
  subst hm3
  refine aw_if_ne (tgt := 10) (q := 8) mX1_countMoved dX1_countMoved_5 rfl (by decide) (fun c_5 => ?_) (fun c_5 => ?_)
  · refine aw_iconst (q := 11) mX1_countMoved dX1_countMoved_10 rfl rfl ?_
    refine aw_istore_n (q := 12) mX1_countMoved dX1_countMoved_11 rfl (by decide) rfl ?_
    refine aw_aload_n (q := 13) mX1_countMoved dX1_countMoved_12 rfl rfl ?_
    refine aw_get (t := 2) (ji := 8) (q := 16) mX1_countMoved dX1_countMoved_13 rfl f1_34 rfl kd_4 rfl (ly_4_8 hl) ?_
    refine aw_iload_n (q := 17) mX1_countMoved dX1_countMoved_16 rfl rfl ?_
    refine aw_iald (q := 18) mX1_countMoved dX1_countMoved_17 rfl kd_10 (by omega) (by omega) h2 ?_
    refine aw_istore_n (q := 19) mX1_countMoved dX1_countMoved_18 rfl (by decide) rfl ?_
    have h9 := F H [] 0 rfl (by simp)
    rw [show (A.length : Int) + (([] : List Int).length : Int) = (A.length : Int) by simp, show (0 : Int) + md_mv m H = md_mv m H by omega] at h9
    exact h9
  · exfalso
    rcases hy with ⟨y1, -⟩ | ⟨-, y2⟩
    · exact c_5 (by omega)
    · exact y2 ⟨p0, by rw [l1]; exact p1⟩

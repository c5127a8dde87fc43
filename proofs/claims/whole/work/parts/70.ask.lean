/-! what is asked of the pages: class and reference -/
/-- an answer: a fault, or what is there -/
def Fq (ft : am_M → Int) (vl : am_M → Int → Prop) (m : am_M) (x s : Int) : Prop := (ft m ≠ 0 ∧ x = -1 ∧ s = ft m) ∨ (ft m = 0 ∧ vl m x ∧ s = 0)
def Sq2 (a j : Int) : Prop := Sk a j ∨ (a = 0 ∧ j = 2)
def Smq (a j : Int) : Prop := Sw a j
/-- the class's half of a question -/
def QC (kx : Nat) (as : List am_V) (n : Nat) (μ : am_M) (F : am_M → Int → Int → Prop) : Prop := AC kx ((2, 0) :: as) n μ (fun r n1 μ1 => ∃ x, r = some (0, x) ∧ n1 = n ∧ Of Sq2 μ μ1 ∧ μ1 4 5 = 0 ∧ ∃ m, BE μ m ∧ MS m ∧ Cls μ1 m ∧ F m x (μ1 0 2))
def QM (km : Nat) (as : List am_V) (n : Nat) (μ : am_M) (F : am_M → Int → Int → Prop) : Prop := AC km ((2, 32) :: as) n μ (fun r n1 μ1 => ∃ x, r = some (0, x) ∧ n1 = n ∧ Of Sw μ μ1 ∧ Mp μ1 ∧ ∃ m, BE μ m ∧ MS m ∧ F m x (μ1 32 0))
theorem Sq2.be {μ μ1 : am_M} (h : Of Sq2 μ μ1) : BE μ μ1 := ⟨fun j _ _ => h 32 j (by unfold Sq2 Sk; omega), fun a j _ _ => h a j (by unfold Sq2 Sk; omega)⟩
theorem Sq2.lay {n : Nat} {μ μ1 : am_M} (hl : Lay n μ) (h : Of Sq2 μ μ1) : Lay n μ1 := Lay_j hl h (fun a j z => by unfold Sq2 Sk at z; (repeat' (refine Or.elim z ?_ ?_ <;> clear z <;> intro z)) <;> first | (obtain ⟨rfl, _⟩ := z; first | exact Sj_0 (by omega) | exact Sj_1 (by omega) (by omega) | exact Sj_32 (by omega) | exact Sj_4 (by omega) (by omega) | exact Sj_2 _ | exact Sj_3 _ | exact Sj_33 (by omega) (by omega) | exact Sj_66 (by omega) (by omega) | exact Sj_w (by omega)) | (subst z; first | exact Sj_2 _ | exact Sj_3 _ | exact Sj_33 (by omega) (by omega) | exact Sj_66 (by omega) (by omega) | exact Sj_w (by omega)) | exact Sj_33 (by omega) (by omega) | exact Sj_66 (by omega) (by omega) | exact Sj_w (by omega))
theorem Sq2.cb {n : Nat} {μ μ1 : am_M} (h : Of Sq2 μ μ1) (hC : Cb n μ) : Cb n μ1 := hC.tr ⟨fun j _ _ => h 1 j (by unfold Sq2 Sk; omega), fun a j h1 h2 => h a j (by unfold Sq2 Sk; omega)⟩ (Sq2.be h) (fun k => h 43 k (by unfold Sq2 Sk; omega)) (fun j => h 2 j (by unfold Sq2 Sk; omega)) (fun j => h 3 j (by unfold Sq2 Sk; omega))
theorem Prx.q {kx km : Nat} {as : List am_V} {n : Nat} {μ : am_M} {F : am_M → Int → Int → Prop} (hJ : J n μ) (hc : QC kx as n μ F) (hm : ∀ μ1, Of Sq2 μ μ1 → Lay n μ1 → Bk μ1 → Bd μ1 → Mp μ1 → QM km as n μ1 F) (hF : ∀ m m' x x' s s', BE μ m → BE μ m' → MS m → MS m' → F m x s → F m' x' s' → x = x' ∧ s = s') : Prx kx km as n μ := by
  obtain ⟨hl, hB, hC, hD, hs, hM, hP⟩ := id hJ
  refine AW.mono hc ?_
  rintro r n1 μ1 ⟨x, h1, h2, hO, h45, m, hb, hMS, hCl, hf⟩
  rw [h2]
  refine ⟨x, h1, ?_⟩
  have hBE := Sq2.be hO
  have hM1 : Mp μ1 := hM.keep hBE (fun j _ _ => hO 32 j (by unfold Sq2 Sk; omega)) (fun a j _ _ => hO a j (by unfold Sq2 Sk; omega))
  have hD1 : Bd μ1 := hD.tr hBE (fun k => hO 43 k (by unfold Sq2 Sk; omega))
  refine AW.mono (hm μ1 hO (Sq2.lay hl hO) (hB.tr hBE) hD1 hM1) ?_
  rintro r' n2 μ2 ⟨x', g1, g2, hO2, hM2, m', hb', hMS', hf'⟩
  obtain ⟨e1, e2⟩ := hF m m' x x' _ _ hb (hBE.trans hb') hMS hMS' hf hf'
  rw [g2]
  have hBE2 := hO2.beW
  have e02 : μ2 0 2 = μ1 0 2 := hO2 0 2 (by unfold Sw; omega)
  refine ⟨by rw [g1, e1], ?_, ?_, ?_, ?_, ?_, hM2, ?_⟩
  · exact (Sq2.lay hl hO).ofW hO2
  · exact (hB.tr hBE).tr hBE2
  · exact (Sq2.cb hO hC).tr ⟨fun j _ _ => hO2 1 j (by unfold Sw; omega), fun a j h1 h2 => hO2 a j (by unfold Sw; omega)⟩ hBE2 (fun k => hO2 43 k (by unfold Sw; omega)) (fun j => hO2 2 j (by unfold Sw; omega)) (fun j => hO2 3 j (by unfold Sw; omega))
  · exact hD1.tr hBE2 (fun k => hO2 43 k (by unfold Sw; omega))
  · rw [e02, e2]
  · refine Or.inr ⟨by rw [hO2 4 5 (by unfold Sw; omega)]; exact h45, m, (hBE.trans hBE2).symm.trans hb, hMS, hCl.tr (fun j _ => hO2 4 j (by unfold Sw; omega)) (fun a j _ _ => hO2 a j (by unfold Sw; omega)) (fun k j hk _ _ => hO2 _ j (by unfold Sw nf; omega))⟩
/-- a line's page -/
theorem Chain.pg {m : am_M} : ∀ {P : Nat}, Chain m (P : Int) → ∀ l, 0 ≤ l → l < frP m (P : Int) → ∃ p, (0 ≤ p ∧ p < (P : Int)) ∧ m 45 p ≤ l ∧ l < m 45 p + m 46 p := by
  intro P
  induction P with
  | zero => intro _ l l0 l1; unfold frP at l1; rw [if_pos (show ((0 : Nat) : Int) = 0 from rfl)] at l1; omega
  | succ P ih =>
    intro hC l l0 l1
    obtain ⟨h0, h1, h2, h3⟩ := hC
    rw [show ((P + 1 : Nat) : Int) = (P : Int) + 1 by omega, frP_succ (by omega)] at l1
    have hR := h2 (P : Int) (by omega) (by omega)
    by_cases hl : m 45 (P : Int) ≤ l
    · exact ⟨(P : Int), by omega, hl, l1⟩
    · obtain ⟨p, p1, p2, p3⟩ := ih ⟨by omega, h1, fun p p0 p1 => h2 p p0 (by omega), fun p p0 p1 => h3 p p0 (by omega)⟩ l l0 (by rw [← hR.1]; omega)
      exact ⟨p, by omega, p2, p3⟩
/-- two that hold the same book have the same pages -/
theorem MS_all {m g : am_M} (hB : Bk m) (hb : BE m g) (h1 : MS m) (h2 : MS g) : g 32 23 = m 32 23 ∧ g 32 22 = m 32 22 ∧ (∀ p, 0 ≤ p → p < m 32 23 → g 45 p = m 45 p ∧ g 46 p = m 46 p ∧ g 48 p = m 48 p) ∧ (∀ p, 0 ≤ p → p ≤ m 32 23 → g 47 (2 * p) = m 47 (2 * p) ∧ g 47 (2 * p + 1) = m 47 (2 * p + 1)) ∧ (m 32 22 = 1 → (∀ l, 0 ≤ l → l < m 32 7 → g 49 l = m 49 l ∧ g 50 l = m 50 l) ∧ ∀ k ∈ md_hr m 0 (m 32 7).toNat, ∀ q, 51 ≤ q → q ≤ 55 → g q k = m q k) := by
  obtain ⟨u1, u2, u3, u4⟩ := MS_uniq hB hb h1 h2
  have hQ := h1.pages hB
  refine ⟨u1, u2, fun p p0 p1 => ⟨(u3 p p0 p1).1, (u3 p p0 p1).2.1, (u3 p p0 p1).2.2.1⟩, u4, fun h22 => ?_⟩
  have hfr : frP m (m 32 23) = m 32 7 := by
    rcases h1.2.2.2 with h | h
    · exact h.2
    · omega
  have hpg : ∀ l, 0 ≤ l → l < m 32 7 → ∃ p, (0 ≤ p ∧ p < m 32 23) ∧ m 45 p ≤ l ∧ l < m 45 p + m 46 p := fun l l0 l1 => by
    have := Chain.pg (m := m) (P := (m 32 23).toNat) (by rw [show (((m 32 23).toNat : Nat) : Int) = m 32 23 by omega]; exact h1.1) l l0 (by rw [show (((m 32 23).toNat : Nat) : Int) = m 32 23 by omega, hfr]; exact l1)
    rw [show (((m 32 23).toNat : Nat) : Int) = m 32 23 by omega] at this
    exact this
  refine ⟨fun l l0 l1 => ?_, fun k hk q q0 q1 => ?_⟩
  · obtain ⟨p, p1, p2, p3⟩ := hpg l l0 l1
    exact (u3 p p1.1 p1.2).2.2.2.1 l p2 p3
  · have hkm := md_hr_iff.mp hk
    obtain ⟨p, p1, p2, p3⟩ := hpg (m 34 k) (by omega) (by omega)
    have hR := (h1.1.2.2.1 p p1.1 p1.2).2.1
    exact (u3 p p1.1 p1.2).2.2.2.2 q k q0 q1 (md_hr_iff.mpr ⟨hkm.1, by omega, hkm.2.2⟩)
theorem MS.h01 {m : am_M} (h : MS m) : m 32 22 = 0 ∨ m 32 22 = 1 := by
  rcases h.2.2.2 with h | h
  · exact Or.inr h.1
  · exact Or.inl h.1
/-- behind refresh -/
theorem qc_refresh {n : Nat} {μ : am_M} (hJ : J n μ) : AC 8 [(2, 4)] n μ (PV n (fun μ1 => Of Sk μ μ1 ∧ μ1 4 5 = 0 ∧ ∃ m, BE μ m ∧ Kx n μ1 m)) := by
  obtain ⟨hl, hB, hC, hD, hs, hM, hP⟩ := id hJ
  refine AW.mono (pX1_refresh n μ hl hB hC hP) ?_
  rintro r n' μ' ⟨h1, h2, hO, h45, m, hb, hMS, hCl⟩
  have hBE := hO.kbe (fun a j z => z)
  exact ⟨h1, h2, hO, h45, m, hb, hl.ofK hO, hB.tr hBE, hC.k hO (fun a j z => z), hBE.symm.trans hb, hMS, hCl⟩
/-- the end of a question: given, or none -/
theorem qc_end {n : Nat} {μ μ1 μ2 m : am_M} {F : am_M → Int → Int → Prop} {x w : Int} (hO : Of Sk μ μ1) (h45 : μ1 4 5 = 0) (hb : BE μ m) (K : Kx n μ1 m) (h2 : μ2 = am_set μ1 0 2 w) (hf : F m x w) : ∃ y, some ((0 : Nat), x) = some (0, y) ∧ n = n ∧ Of Sq2 μ μ2 ∧ μ2 4 5 = 0 ∧ ∃ m, BE μ m ∧ MS m ∧ Cls μ2 m ∧ F m y (μ2 0 2) := by
  refine ⟨x, rfl, rfl, ?_, ?_, m, hb, K.2.2.2.2.1, ?_, ?_⟩
  · rw [h2]; exact (hO.mono (fun a j z => Or.inl z)).set (Or.inr ⟨rfl, rfl⟩)
  · rw [h2, am_sn (Or.inl (by decide))]; exact h45
  · rw [h2]
    exact K.2.2.2.2.2.tr (fun j _ => by rw [am_sn (Or.inl (by decide))]) (fun a j h1 h3 => by rw [am_sn (Or.inl (by omega))]) (fun k j hk _ _ => by rw [am_sn (Or.inl (by unfold nf; omega))])
  · rw [h2, am_ss]; exact hf
def ft_pages (m : am_M) : Int := if m 32 22 = 0 then 6 else 0
def vl_pages (m : am_M) (x : Int) : Prop := x = m 32 23
theorem qc_pages {n : Nat} {μ : am_M} (hJ : J n μ) : QC 65 [] n μ (Fq ft_pages vl_pages) := by
  have hl := hJ.1
  refine AC.of rfl ?_
  refine aw_aload_n (q := 1) mX6_pages dX6_pages_0 rfl rfl ?_
  refine aw_get (t := 2) (ji := 1) (q := 4) mX6_pages dX6_pages_1 rfl f6_21 rfl kd_0 rfl (ly_0_1 hl) ?_
  refine aw_v0 (ci := 1) (q := 7) mX6_pages dX6_pages_4 rfl l6_141 k65_8 rfl kd_4 rfl rfl rfl (qc_refresh hJ) (kvoid (fun μ1 h1 => ?_))
  obtain ⟨hO, h45, m, hb, K⟩ := h1
  have hl := K.1
  obtain ⟨l1, l2, -⟩ := id K.2.2.2.2.2
  refine aw_aload_n (q := 8) mX6_pages dX6_pages_7 rfl rfl ?_
  refine aw_get (t := 2) (ji := 1) (q := 11) mX6_pages dX6_pages_8 rfl f6_21 rfl kd_0 rfl (ly_0_1 hl) ?_
  refine aw_get (t := 0) (ji := 4) (q := 14) mX6_pages dX6_pages_11 rfl f6_144 rfl kd_4 rfl l2 ?_
  refine aw_if_eq (tgt := 31) (q := 17) mX6_pages dX6_pages_14 rfl (by decide) (fun c_14 => ?_) (fun c_14 => ?_)
  · refine aw_aload_n (q := 32) mX6_pages dX6_pages_31 rfl rfl ?_
    refine aw_bipush (q := 34) mX6_pages dX6_pages_32 rfl rfl ?_
    refine aw_v1 (ci := 6) (q := 37) mX6_pages dX6_pages_34 rfl l6_50 k65_83 rfl kd_0 rfl rfl rfl (pX6_none n μ1 6) (kset (fun μ2 h2 => ?_))
    refine aw_iret mX6_pages dX6_pages_37 ?_
    exact qc_end hO h45 hb K h2 (Or.inl ⟨by unfold ft_pages; rw [if_pos c_14]; decide, rfl, by unfold ft_pages; rw [if_pos c_14]⟩)
  · refine aw_aload_n (q := 18) mX6_pages dX6_pages_17 rfl rfl ?_
    refine aw_aload_n (q := 19) mX6_pages dX6_pages_18 rfl rfl ?_
    refine aw_get (t := 2) (ji := 1) (q := 22) mX6_pages dX6_pages_19 rfl f6_21 rfl kd_0 rfl (ly_0_1 hl) ?_
    refine aw_get (t := 0) (ji := 3) (q := 25) mX6_pages dX6_pages_22 rfl f6_147 rfl kd_4 rfl l1 ?_
    refine aw_v1 (ci := 6) (q := 28) mX6_pages dX6_pages_25 rfl l6_60 k65_82 rfl kd_0 rfl rfl rfl (pX6_give n μ1 (m 32 23)) (kset (fun μ2 h2 => ?_))
    refine aw_goto (q := 37) mX6_pages dX6_pages_28 (by decide) ?_
    refine aw_iret mX6_pages dX6_pages_37 ?_
    exact qc_end hO h45 hb K h2 (Or.inr ⟨by unfold ft_pages; rw [if_neg c_14], rfl, rfl⟩)
def f_ln (l : Int) (m : am_M) : Int := if 0 ≤ l ∧ l < m 32 7 then (if m 32 22 = 0 then 6 else 0) else 1
def f_nt (k : Int) (m : am_M) : Int := if 0 ≤ k ∧ k < m 32 8 then (if am_bit (m 32 5) (m 38 k) = 1 then (if m 32 22 = 0 then 6 else 0) else 5) else 1
def f_pg (p : Int) (m : am_M) : Int := if m 32 22 = 0 then 6 else if 0 ≤ p ∧ p < m 32 23 then 0 else 1
theorem pX6_faultOfLine (n : Nat) (μ m : am_M) (l : Int) (K : Kx n μ m) : AC 76 [(2, 0), (0, l)] n μ (PU (0, f_ln l m) n μ) := by
  have hl := K.1
  obtain ⟨l1, l2, -⟩ := id K.2.2.2.2.2
  have e7 : μ 1 2 = m 32 7 := by rw [K.2.2.1.2.1.1, K.2.2.2.1.1 7 (by decide) (by decide)]
  unfold f_ln
  refine AC.of rfl ?_
  have hh := pX0_hasLine n μ l
  rw [e7] at hh
  refine aw_aload_n (q := 1) mX6_faultOfLine dX6_faultOfLine_0 rfl rfl ?_
  refine aw_get (t := 2) (ji := 0) (q := 4) mX6_faultOfLine dX6_faultOfLine_1 rfl f6_12 rfl kd_0 rfl (ly_0_0 hl) ?_
  refine aw_iload_n (q := 5) mX6_faultOfLine dX6_faultOfLine_4 rfl rfl ?_
  refine aw_v1 (ci := 0) (q := 8) mX6_faultOfLine dX6_faultOfLine_5 rfl l6_63 k76_3 rfl kd_1 rfl rfl rfl (hh) (kint (fun y μ3 hy => ?_))
  obtain ⟨hm, hy⟩ := hy
  subst hm
  refine aw_if_ne (tgt := 13) (q := 11) mX6_faultOfLine dX6_faultOfLine_8 rfl (by decide) (fun c_8 => ?_) (fun c_8 => ?_)
  · refine aw_aload_n (q := 14) mX6_faultOfLine dX6_faultOfLine_13 rfl rfl ?_
    refine aw_get (t := 2) (ji := 1) (q := 17) mX6_faultOfLine dX6_faultOfLine_14 rfl f6_21 rfl kd_0 rfl (ly_0_1 hl) ?_
    refine aw_get (t := 0) (ji := 4) (q := 20) mX6_faultOfLine dX6_faultOfLine_17 rfl f6_144 rfl kd_4 rfl l2 ?_
    refine aw_if_eq (tgt := 27) (q := 23) mX6_faultOfLine dX6_faultOfLine_20 rfl (by decide) (fun c_20 => ?_) (fun c_20 => ?_)
    · refine aw_bipush (q := 29) mX6_faultOfLine dX6_faultOfLine_27 rfl rfl ?_
      refine aw_iret mX6_faultOfLine dX6_faultOfLine_29 ?_
      exact ⟨by rw [if_pos (by omega), if_pos c_20], rfl, rfl⟩
    · refine aw_iconst (q := 24) mX6_faultOfLine dX6_faultOfLine_23 rfl rfl ?_
      refine aw_goto (q := 29) mX6_faultOfLine dX6_faultOfLine_24 (by decide) ?_
      refine aw_iret mX6_faultOfLine dX6_faultOfLine_29 ?_
      exact ⟨by rw [if_pos (by omega), if_neg c_20], rfl, rfl⟩
  · refine aw_iconst (q := 12) mX6_faultOfLine dX6_faultOfLine_11 rfl rfl ?_
    refine aw_iret mX6_faultOfLine dX6_faultOfLine_12 ?_
    exact ⟨by rw [if_neg (by omega)], rfl, rfl⟩
theorem pX6_faultOfPage (n : Nat) (μ m : am_M) (p : Int) (K : Kx n μ m) : AC 78 [(2, 0), (0, p)] n μ (PU (0, f_pg p m) n μ) := by
  have hl := K.1
  obtain ⟨l1, l2, -⟩ := id K.2.2.2.2.2
  unfold f_pg
  have hh := pX1_hasPage n μ p hl
  rw [l1] at hh
  refine AC.of rfl ?_
  refine aw_aload_n (q := 1) mX6_faultOfPage dX6_faultOfPage_0 rfl rfl ?_
  refine aw_get (t := 2) (ji := 1) (q := 4) mX6_faultOfPage dX6_faultOfPage_1 rfl f6_21 rfl kd_0 rfl (ly_0_1 hl) ?_
  refine aw_get (t := 0) (ji := 4) (q := 7) mX6_faultOfPage dX6_faultOfPage_4 rfl f6_144 rfl kd_4 rfl l2 ?_
  refine aw_if_ne (tgt := 13) (q := 10) mX6_faultOfPage dX6_faultOfPage_7 rfl (by decide) (fun c_7 => ?_) (fun c_7 => ?_)
  · refine aw_aload_n (q := 14) mX6_faultOfPage dX6_faultOfPage_13 rfl rfl ?_
    refine aw_get (t := 2) (ji := 1) (q := 17) mX6_faultOfPage dX6_faultOfPage_14 rfl f6_21 rfl kd_0 rfl (ly_0_1 hl) ?_
    refine aw_iload_n (q := 18) mX6_faultOfPage dX6_faultOfPage_17 rfl rfl ?_
    refine aw_v1 (ci := 1) (q := 21) mX6_faultOfPage dX6_faultOfPage_18 rfl l6_197 k78_9 rfl kd_4 rfl rfl rfl (hh) (kint (fun y μ3 hy => ?_))
    obtain ⟨hm, hy⟩ := hy
    subst hm
    refine aw_if_eq (tgt := 28) (q := 24) mX6_faultOfPage dX6_faultOfPage_21 rfl (by decide) (fun c_21 => ?_) (fun c_21 => ?_)
    · refine aw_iconst (q := 29) mX6_faultOfPage dX6_faultOfPage_28 rfl rfl ?_
      refine aw_iret mX6_faultOfPage dX6_faultOfPage_29 ?_
      exact ⟨by rw [if_neg c_7, if_neg (by omega)], rfl, rfl⟩
    · refine aw_iconst (q := 25) mX6_faultOfPage dX6_faultOfPage_24 rfl rfl ?_
      refine aw_goto (q := 29) mX6_faultOfPage dX6_faultOfPage_25 (by decide) ?_
      refine aw_iret mX6_faultOfPage dX6_faultOfPage_29 ?_
      exact ⟨by rw [if_neg c_7, if_pos (by omega)], rfl, rfl⟩
  · refine aw_bipush (q := 12) mX6_faultOfPage dX6_faultOfPage_10 rfl rfl ?_
    refine aw_iret mX6_faultOfPage dX6_faultOfPage_12 ?_
    exact ⟨by rw [if_pos (by omega)], rfl, rfl⟩
theorem pX6_faultOfNote (n : Nat) (μ m : am_M) (k a : Int) (K : Kx n μ m) (ha : (a = nf k ∧ 0 ≤ k ∧ k < μ 32 8) ∨ (a = -1 ∧ ¬ (0 ≤ k ∧ k < μ 32 8))) : AC 77 [(2, 0), (2, a)] n μ (PU (0, f_nt k m) n μ) := by
  have hl := K.1
  obtain ⟨l1, l2, -⟩ := id K.2.2.2.2.2
  have e8 : m 32 8 = μ 32 8 := K.2.2.2.1.1 8 (by decide) (by decide)
  unfold f_nt
  refine AC.of rfl ?_
  rcases ha with ⟨ha, k0, k1⟩ | ⟨ha, hn⟩
  · obtain ⟨r1, -, -⟩ := K.nt k0 k1
    rw [← ha] at r1
    have hk_a := r1.k
    have hg := r1.1
    obtain ⟨-, mm⟩ := K.2.2.1.2.2.2 k k0 k1
    have m3 : μ a 3 = m 38 k := by rw [ha, mm.2.2.2.1, K.2.2.2.1.2 38 k (by decide) (by decide)]
    have c7 : μ 1 7 = m 32 5 := by rw [K.2.2.1.2.1.2.2.2.2.2.1, K.2.2.2.1.1 5 (by decide) (by decide)]
    have hsh := pX0_isShown n μ a hl hk_a
    rw [m3, c7] at hsh
    rw [if_pos (by omega)]
    refine aw_aload_n (q := 1) mX6_faultOfNote dX6_faultOfNote_0 rfl rfl ?_
    refine aw_ifnonnull (tgt := 6) (q := 4) mX6_faultOfNote dX6_faultOfNote_1 rfl (by decide) (fun c_1 => ?_) (fun c_1 => ?_)
    · refine aw_aload_n (q := 7) mX6_faultOfNote dX6_faultOfNote_6 rfl rfl ?_
      refine aw_get (t := 2) (ji := 0) (q := 10) mX6_faultOfNote dX6_faultOfNote_7 rfl f6_12 rfl kd_0 rfl (ly_0_0 hl) ?_
      refine aw_aload_n (q := 11) mX6_faultOfNote dX6_faultOfNote_10 rfl rfl ?_
      refine aw_v1 (ci := 0) (q := 14) mX6_faultOfNote dX6_faultOfNote_11 rfl l6_137 k77_5 rfl kd_1 rfl rfl rfl (hsh) (kint (fun y μ3 hy => ?_))
      obtain ⟨hm, hy⟩ := hy
      subst hm
      refine aw_if_ne (tgt := 19) (q := 17) mX6_faultOfNote dX6_faultOfNote_14 rfl (by decide) (fun c_14 => ?_) (fun c_14 => ?_)
      · refine aw_aload_n (q := 20) mX6_faultOfNote dX6_faultOfNote_19 rfl rfl ?_
        refine aw_get (t := 2) (ji := 1) (q := 23) mX6_faultOfNote dX6_faultOfNote_20 rfl f6_21 rfl kd_0 rfl (ly_0_1 hl) ?_
        refine aw_get (t := 0) (ji := 4) (q := 26) mX6_faultOfNote dX6_faultOfNote_23 rfl f6_144 rfl kd_4 rfl l2 ?_
        refine aw_if_eq (tgt := 33) (q := 29) mX6_faultOfNote dX6_faultOfNote_26 rfl (by decide) (fun c_26 => ?_) (fun c_26 => ?_)
        · refine aw_bipush (q := 35) mX6_faultOfNote dX6_faultOfNote_33 rfl rfl ?_
          refine aw_iret mX6_faultOfNote dX6_faultOfNote_35 ?_
          exact ⟨by rw [if_pos (by omega), if_pos c_26], rfl, rfl⟩
        · refine aw_iconst (q := 30) mX6_faultOfNote dX6_faultOfNote_29 rfl rfl ?_
          refine aw_goto (q := 35) mX6_faultOfNote dX6_faultOfNote_30 (by decide) ?_
          refine aw_iret mX6_faultOfNote dX6_faultOfNote_35 ?_
          exact ⟨by rw [if_pos (by omega), if_neg c_26], rfl, rfl⟩
      · refine aw_iconst (q := 18) mX6_faultOfNote dX6_faultOfNote_17 rfl rfl ?_
        refine aw_iret mX6_faultOfNote dX6_faultOfNote_18 ?_
        exact ⟨by rw [if_neg (by omega)], rfl, rfl⟩
    · exact absurd (show 0 ≤ a by omega) c_1
  · rw [if_neg (by omega)]
    refine aw_aload_n (q := 1) mX6_faultOfNote dX6_faultOfNote_0 rfl rfl ?_
    refine aw_ifnonnull (tgt := 6) (q := 4) mX6_faultOfNote dX6_faultOfNote_1 rfl (by decide) (fun c_1 => ?_) (fun c_1 => ?_)
    · exact absurd c_1 (by omega)
    · refine aw_iconst (q := 5) mX6_faultOfNote dX6_faultOfNote_4 rfl rfl ?_
      refine aw_iret mX6_faultOfNote dX6_faultOfNote_5 ?_
      exact ⟨rfl, rfl, rfl⟩

/-! the pages are settled by the data -/
theorem rw_gr_len {h g : Int} : ∀ {row : List rw_I} {t : Int} {xs : List Int}, rw_gr h g t row xs → xs.length = row.length := by
  intro row
  induction row with
  | nil =>
    intro t xs hg
    cases xs with
    | nil => rfl
    | cons x ys => unfold rw_gr at hg; exact absurd hg id
  | cons it r ih =>
    intro t xs hg
    cases xs with
    | nil => unfold rw_gr at hg; exact absurd hg id
    | cons x ys =>
      unfold rw_gr at hg
      simp only [List.length_cons, ih hg.2.2]
theorem MX_uniq {μ : am_M} {fr m1 m2 a b : Int} (h1 : MX μ fr m1 a b) (h2 : MX μ fr m2 a b) (k1 : 0 ≤ m1) (k2 : 0 ≤ m2) (f1 : fr + m1 ≤ μ 32 7) (f2 : fr + m2 ≤ μ 32 7) : m1 = m2 := by
  rcases Int.lt_or_le m1 m2 with h | h
  · exact absurd (h2.1 (m1 + 1) (by omega) (by omega)) (h1.2 (by omega))
  · rcases Int.lt_or_le m2 m1 with h' | h'
    · exact absurd (h1.1 (m2 + 1) (by omega) (by omega)) (h2.2 (by omega))
    · omega
theorem md_ro_cover {H : List Int} : ∀ {q : List Int} {k : Int}, q.length = H.length → (∀ y ∈ q, y = 0 ∨ y = 1) → k ∈ H → k ∈ md_ro 0 H q ∨ k ∈ md_ro 1 H q := by
  induction H with
  | nil => intro q k _ _ h; simp at h
  | cons x r ih =>
    intro q k hlen hq hk
    cases q with
    | nil => simp at hlen
    | cons y q =>
      have hl : q.length = r.length := by simpa using hlen
      have hq' : ∀ y ∈ q, y = 0 ∨ y = 1 := fun z hz => hq z (List.mem_cons_of_mem _ hz)
      unfold md_ro
      rcases hq y List.mem_cons_self with e | e
      · rw [if_pos e, if_neg (by omega)]
        rcases List.mem_cons.mp hk with z | z
        · exact Or.inl (by rw [z]; exact List.mem_cons_self)
        · rcases ih hl hq' z with w | w
          · exact Or.inl (List.mem_cons_of_mem _ w)
          · exact Or.inr w
      · rw [if_neg (by omega), if_pos e]
        rcases List.mem_cons.mp hk with z | z
        · exact Or.inr (by rw [z]; exact List.mem_cons_self)
        · rcases ih hl hq' z with w | w
          · exact Or.inl w
          · exact Or.inr (List.mem_cons_of_mem _ w)
theorem md_sds_01 {μ : am_M} {bits : Int} : ∀ {H : List Int} {e : Int}, (∀ k ∈ H, 0 ≤ μ 37 k) → ∀ y ∈ md_sds μ bits e H, y = 0 ∨ y = 1 := by
  intro H
  induction H with
  | nil => intro e _ y hy; unfold md_sds at hy; simp at hy
  | cons x r ih =>
    intro e hv y hy
    have hx := hv x List.mem_cons_self
    have hr : ∀ k ∈ r, 0 ≤ μ 37 k := fun k hk => hv k (List.mem_cons_of_mem _ hk)
    unfold md_sds at hy
    split at hy
    · rcases List.mem_cons.mp hy with z | z
      · omega
      · exact ih hr y z
    · rcases List.mem_cons.mp hy with z | z
      · rw [z]; exact am_bit01 _ _
      · exact ih hr y z
theorem md_rw_cover {μ : am_M} {bits k : Int} {H : List Int} (hv : ∀ k ∈ H, 0 ≤ μ 37 k) (hk : k ∈ H) : k ∈ md_rw μ 0 bits H ∨ k ∈ md_rw μ 1 bits H := md_ro_cover md_sds_len (md_sds_01 hv) hk
theorem Pq_eq {μ μ1 μ2 : am_M} {p s c k : Int} {rw xs : List Int} (h1 : Pq μ μ1 p s c rw xs) (h2 : Pq μ μ2 p s c rw xs) (hl : xs.length = rw.length) (hk : k ∈ rw) : ∀ q, 51 ≤ q → q ≤ 55 → μ1 q k = μ2 q k := by
  intro q q1 q2
  obtain ⟨i, hi⟩ := List.mem_iff_getElem?.mp hk
  have hlt : i < rw.length := by
    rcases Nat.lt_or_ge i rw.length with h | h
    · exact h
    · rw [List.getElem?_eq_none h] at hi; simp at hi
  obtain ⟨x, hx⟩ : ∃ x, xs[i]? = some x := ⟨xs[i]'(by omega), List.getElem?_eq_getElem (by omega)⟩
  obtain ⟨a1, a2, a3, a4, a5⟩ := h1 i k x hi hx
  obtain ⟨b1, b2, b3, b4, b5⟩ := h2 i k x hi hx
  rcases (by omega : q = 51 ∨ q = 52 ∨ q = 53 ∨ q = 54 ∨ q = 55) with e | e | e | e | e <;> rw [e]
  · omega
  · omega
  · omega
  · omega
  · omega
theorem PgB_uniq {μ μ1 μ2 : am_M} {p a b : Int} {H : List Int} (hv : ∀ k ∈ H, 0 ≤ μ 37 k) (h1 : PgB μ μ1 p a b H) (h2 : PgB μ μ2 p a b H) : μ1 48 p = μ2 48 p ∧ μ1 47 (2 * p + 2) = μ2 47 (2 * p + 2) ∧ μ1 47 (2 * p + 3) = μ2 47 (2 * p + 3) ∧ ∀ q k, 51 ≤ q → q ≤ 55 → k ∈ H → μ1 q k = μ2 q k := by
  obtain ⟨bits, c0, c1, xs0, xs1, h1, h2', h3, h4, h5, h6, h7, h8, h9, h10⟩ := h1
  obtain ⟨bits', c0', c1', xs0', xs1', k1, k2, k3, k4, k5, k6, k7, k8, k9, k10⟩ := h2
  obtain ⟨e1, e2⟩ := h1.uniq k1
  have e2 := e2 h2'
  have hdl : md_dc μ a b H bits < rw_NV := by rw [(h1.fin h2').2.2]; exact h2'
  have hd1 := md_add_lt hdl
  have hd2 := md_add_lt hd1.2.1
  rw [← e2] at k3 k4 k5 k6 k7 k8 k9 k10
  have f0 := (h3.uniq k3).2 hd2.1
  have f1 := (h4.uniq k4).2 hd1.1
  rw [← f0] at k5 k6 k9
  rw [← f1] at k7 k8 k10
  have g0 := rw_gr_uniq h5 k5
  have g1 := rw_gr_uniq h7 k7
  rw [← g0] at k6
  rw [← g1] at k8
  have l0 := rw_gr_len h5
  have l1 := rw_gr_len h7
  rw [mr_its_len] at l0 l1
  refine ⟨e1, h9.trans k9.symm, h10.trans k10.symm, fun q k q1 q2 hk => ?_⟩
  rcases md_rw_cover (bits := bits) hv hk with z | z
  · exact Pq_eq h6 k6 l0 z q q1 q2
  · exact Pq_eq h8 k8 l1 z q q1 q2
theorem PgR_uniq {μ g : am_M} {p : Int} (hB : Bk μ) (hb : BE μ g) (h1 : PgR μ p) (h2 : PgR g p) (hfr : frP g p = frP μ p) (ha : g 47 (2 * p) = μ 47 (2 * p)) (hb' : g 47 (2 * p + 1) = μ 47 (2 * p + 1)) : g 45 p = μ 45 p ∧ g 46 p = μ 46 p ∧ g 48 p = μ 48 p ∧ g 47 (2 * p + 2) = μ 47 (2 * p + 2) ∧ g 47 (2 * p + 3) = μ 47 (2 * p + 3) ∧ (∀ l, μ 45 p ≤ l → l < μ 45 p + μ 46 p → g 49 l = μ 49 l ∧ g 50 l = μ 50 l) ∧ ∀ q k, 51 ≤ q → q ≤ 55 → k ∈ md_hr μ (μ 45 p) (μ 46 p).toNat → g q k = μ q k := by
  obtain ⟨k1, k2, k3, k4, k5, k6⟩ := h1
  obtain ⟨m1, m2, m3, m4, m5, m6⟩ := h2
  have e45 : g 45 p = μ 45 p := by rw [m1, k1, hfr]
  rw [e45] at m2 m4 m5 m6
  rw [ha, hb'] at m4 m6
  rw [MX_be hb] at m4
  rw [hb.1 7 (by decide) (by decide)] at m2
  have e46 : g 46 p = μ 46 p := MX_uniq m4 k4 m2.2.1 k2.2.1 m2.2.2 k2.2.2
  rw [e46] at m5 m6
  rw [md_hr_tr hb] at m6
  have hl : ∀ l, μ 45 p ≤ l → l < μ 45 p + μ 46 p → g 49 l = μ 49 l ∧ g 50 l = μ 50 l := fun l l0 l1 => by
    have q1 := k5 l l0 l1
    have q2 := m5 l l0 l1
    rw [md_ls_tr hb] at q2
    exact ⟨by rw [q1.1, q2.1], by rw [q1.2, q2.2]⟩
  have hm : ∀ k ∈ md_hr μ (μ 45 p) (μ 46 p).toNat, 0 ≤ k ∧ k < μ 32 8 ∧ μ 45 p ≤ μ 34 k ∧ μ 34 k < μ 45 p + μ 46 p := fun k hk => by
    have := md_hr_mem hk
    omega
  have hb2 : BE g μ := ⟨fun j j0 j1 => (hb.1 j j0 j1).symm, fun q j q0 q1 => (hb.2 q j q0 q1).symm⟩
  have m6' : PgB μ g p (μ 47 (2 * p)) (μ 47 (2 * p + 1)) (md_hr μ (μ 45 p) (μ 46 p).toNat) := m6.to hb2 (fun k hk => by
    have := hm k hk
    rw [hb.2 34 k (by decide) (by decide)]
    exact (hl _ (by omega) (by omega)).1.symm)
  obtain ⟨u1, u2, u3, u4⟩ := PgB_uniq (fun k hk => by
    have := hm k hk
    obtain ⟨-, -, -, n4, -⟩ := hB.2.2.2.2.2.2.2.2 k this.1 this.2.1
    exact n4.1) m6' k6
  exact ⟨e45, e46, u1, u2, u3, hl, u4⟩
/-- pages alike -/
def Agr (μ g : am_M) (P : Int) : Prop := (∀ p, 0 ≤ p → p < P → g 45 p = μ 45 p ∧ g 46 p = μ 46 p ∧ g 48 p = μ 48 p ∧ (∀ l, μ 45 p ≤ l → l < μ 45 p + μ 46 p → g 49 l = μ 49 l ∧ g 50 l = μ 50 l) ∧ ∀ q k, 51 ≤ q → q ≤ 55 → k ∈ md_hr μ (μ 45 p) (μ 46 p).toNat → g q k = μ q k) ∧ ∀ p, 0 ≤ p → p ≤ P → g 47 (2 * p) = μ 47 (2 * p) ∧ g 47 (2 * p + 1) = μ 47 (2 * p + 1)
theorem Agr.fr {μ g : am_M} {P : Int} (h : Agr μ g P) (h0 : 0 ≤ P) : frP g P = frP μ P := by
  unfold frP
  split
  · rfl
  · have := h.1 (P - 1) (by omega) (by omega)
    rw [this.1, this.2.1]
theorem Agr_step {μ g : am_M} {P : Int} (hB : Bk μ) (hb : BE μ g) (h0 : 0 ≤ P) (h1 : PgR μ P) (h2 : PgR g P) (h : Agr μ g P) : Agr μ g (P + 1) := by
  have hz := h.2 P h0 (Int.le_refl _)
  obtain ⟨u1, u2, u3, u4, u5, u6, u7⟩ := PgR_uniq hB hb h1 h2 (h.fr h0) hz.1 hz.2
  refine ⟨fun p p0 p1 => ?_, fun p p0 p1 => ?_⟩
  · by_cases e : p = P
    · rw [e]; exact ⟨u1, u2, u3, u6, u7⟩
    · exact h.1 p p0 (by omega)
  · by_cases e : p = P + 1
    · rw [e, show 2 * (P + 1) + 1 = 2 * P + 3 by omega, show 2 * (P + 1) = 2 * P + 2 by omega]; exact ⟨u4, u5⟩
    · exact h.2 p p0 (by omega)
theorem Agr_upto {μ g : am_M} {P Q : Int} (hB : Bk μ) (hb : BE μ g) (h1 : Chain μ P) (h2 : Chain g Q) : ∀ N : Nat, (N : Int) ≤ P → (N : Int) ≤ Q → Agr μ g (N : Int) := by
  intro N
  induction N with
  | zero =>
    intro _ _
    refine ⟨fun p p0 p1 => by omega, fun p p0 p1 => ?_⟩
    have : p = 0 := by omega
    rw [this]
    exact ⟨h2.2.1.1.trans h1.2.1.1.symm, h2.2.1.2.trans h1.2.1.2.symm⟩
  | succ N ih =>
    intro hP hQ
    have := Agr_step hB hb (by omega) (h1.2.2.1 N (by omega) (by omega)) (h2.2.2.1 N (by omega) (by omega)) (ih (by omega) (by omega))
    rw [show ((N + 1 : Nat) : Int) = (N : Int) + 1 by omega]
    exact this
/-- a chain that ended has no page more -/
theorem MS_end {μ g : am_M} {P : Int} (hB : Bk μ) (hb : BE μ g) (h0 : 0 ≤ P) (h1 : MS μ) (hP : P = μ 32 23) (h2 : PgR g P) (hA : Agr μ g P) : False := by
  obtain ⟨c, e1, e2, e3⟩ := h1
  rw [← hP] at c e1 e2 e3
  obtain ⟨m1, m2, m3, m4, -, -⟩ := h2
  have hz := hA.2 P h0 (Int.le_refl _)
  rw [hz.1, hz.2, e1, e2] at m3 m4
  rw [m1, hA.fr h0] at m2
  rw [m1, hA.fr h0] at m4
  rw [hb.1 7 (by decide) (by decide)] at m2
  rcases e3 with ⟨-, e3⟩ | ⟨-, e3, e4⟩
  · omega
  · have h9 := m4.1 1 (by decide) (by omega)
    rw [md_held_be hb] at h9
    exact e4 h9
theorem MS_uniq {μ g : am_M} (hB : Bk μ) (hb : BE μ g) (h1 : MS μ) (h2 : MS g) : g 32 23 = μ 32 23 ∧ g 32 22 = μ 32 22 ∧ Agr μ g (μ 32 23) := by
  have hb2 : BE g μ := ⟨fun j j0 j1 => (hb.1 j j0 j1).symm, fun q j q0 q1 => (hb.2 q j q0 q1).symm⟩
  have c1 := h1.1
  have c2 := h2.1
  have hP0 := c1.1
  have hQ0 := c2.1
  have hPQ : g 32 23 = μ 32 23 := by
    rcases Int.lt_or_le (g 32 23) (μ 32 23) with h | h
    · have hA := Agr_upto (hB.tr hb) hb2 c2 c1 (g 32 23).toNat (by omega) (by omega)
      rw [show (((g 32 23).toNat : Nat) : Int) = g 32 23 by omega] at hA
      exact (MS_end (hB.tr hb) hb2 hQ0 h2 rfl (c1.2.2.1 _ hQ0 h) hA).elim
    · rcases Int.lt_or_le (μ 32 23) (g 32 23) with h' | h'
      · have hA := Agr_upto hB hb c1 c2 (μ 32 23).toNat (by omega) (by omega)
        rw [show (((μ 32 23).toNat : Nat) : Int) = μ 32 23 by omega] at hA
        exact (MS_end hB hb hP0 h1 rfl (c2.2.2.1 _ hP0 h') hA).elim
      · omega
  have hA := Agr_upto hB hb c1 c2 (μ 32 23).toNat (by omega) (by omega)
  rw [show (((μ 32 23).toNat : Nat) : Int) = μ 32 23 by omega] at hA
  refine ⟨hPQ, ?_, hA⟩
  have hf := hA.fr hP0
  rcases h1.2.2.2 with ⟨e1, e2⟩ | ⟨e1, e2, -⟩
  · rcases h2.2.2.2 with ⟨f1, f2⟩ | ⟨f1, f2, -⟩
    · omega
    · rw [hPQ, hf, hb.1 7 (by decide) (by decide)] at f2; omega
  · rcases h2.2.2.2 with ⟨f1, f2⟩ | ⟨f1, f2, -⟩
    · rw [hPQ, hf, hb.1 7 (by decide) (by decide)] at f2; omega
    · omega

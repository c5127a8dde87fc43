/-! class and reference: what is told is alike -/
def nf (k : Int) : Int := 66 + 2 * k
def Nm (μ : am_M) (k : Int) : Prop := μ (nf k) 0 = μ 35 k ∧ μ (nf k) 1 = μ 36 k ∧ μ (nf k) 2 = μ 37 k ∧ μ (nf k) 3 = μ 38 k ∧ μ (nf k) 5 = μ 41 k ∧ μ (nf k) 6 = μ 34 k ∧ μ (nf k) 7 = μ 39 k ∧ μ (nf k) 8 = μ 35 k + μ 40 k ∧ μ (nf k) 9 = μ 42 k ∧ μ (nf k) 10 = μ 43 k ∧ ∀ c, 0 ≤ c → c < μ 41 k → μ (nf k + 1) c = μ 44 (3 * k + c)
def Cb (n : Nat) (μ : am_M) : Prop := (n : Int) = 66 + 2 * μ 32 8 ∧ (μ 1 2 = μ 32 7 ∧ μ 1 3 = μ 32 8 ∧ μ 1 4 = μ 32 2 ∧ μ 1 5 = μ 32 3 ∧ μ 1 6 = μ 32 4 ∧ μ 1 7 = μ 32 5 ∧ μ 1 8 = μ 32 6) ∧ (∀ l, 0 ≤ l → l < μ 32 7 → μ 2 l = μ 33 l) ∧ ∀ k, 0 ≤ k → k < μ 32 8 → μ 3 k = nf k ∧ Nm μ k
theorem nf_r {n : Nat} {μ : am_M} (hC : Cb n μ) {k : Int} (h0 : 0 ≤ k) (h1 : k < μ 32 8) : Nr n (nf k) := by
  unfold Nr nf
  have := hC.1
  omega
theorem nf_inj {k l : Int} (h : nf k = nf l) : k = l := by unfold nf at h; omega
theorem nf_c {n : Nat} {μ : am_M} (hB : Bk μ) (hC : Cb n μ) {k : Int} (h0 : 0 ≤ k) (h1 : k < μ 32 8) : Nc μ (nf k) := by
  obtain ⟨-, m⟩ := hC.2.2.2 k h0 h1
  obtain ⟨m0, m1, m2, m3, m5, m6, m7, m8, m9, m10, mc⟩ := m
  obtain ⟨b1, b2, b3, b4, b5, b6, b7, b8, b9, b10, b11, b12⟩ := hB.2.2.2.2.2.2.2.2 k h0 h1
  unfold Nc
  rw [m0, m1, m5, m8, m9]
  refine ⟨by omega, b9, b3, b8, b2, fun c c0 c1 => ?_, fun h => ?_⟩
  · rw [mc c c0 c1]; exact b11 c c0 c1
  · have : ¬ 0 < μ 39 k := fun z => by have := b12 z; omega
    omega
theorem Cb.bc {n : Nat} {μ : am_M} (hB : Bk μ) (hC : Cb n μ) : Bc μ := by
  obtain ⟨b1, b2, b3, -⟩ := hB
  obtain ⟨-, ⟨-, -, c4, c5, c6, -⟩, -⟩ := hC
  unfold Bc
  rw [c4, c5, c6]
  exact ⟨b1, b2, b3⟩
theorem Nm.tr {μ μ1 : am_M} {k : Int} (hk : 0 ≤ k) (h1 : NE μ μ1) (h2 : BE μ μ1) (h43 : μ1 43 k = μ 43 k) (h : Nm μ k) : Nm μ1 k := by
  have h66 : 66 ≤ nf k := by unfold nf; omega
  unfold Nm at h ⊢
  rw [h1.2 _ 0 h66 (by omega), h1.2 _ 1 h66 (by omega), h1.2 _ 2 h66 (by omega), h1.2 _ 3 h66 (by omega), h1.2 _ 5 h66 (by omega), h1.2 _ 6 h66 (by omega), h1.2 _ 7 h66 (by omega), h1.2 _ 8 h66 (by omega), h1.2 _ 9 h66 (by omega), h1.2 _ 10 h66 (by omega), h43]
  rw [h2.2 34 k (by decide) (by decide), h2.2 35 k (by decide) (by decide), h2.2 36 k (by decide) (by decide), h2.2 37 k (by decide) (by decide), h2.2 38 k (by decide) (by decide), h2.2 39 k (by decide) (by decide), h2.2 40 k (by decide) (by decide), h2.2 41 k (by decide) (by decide), h2.2 42 k (by decide) (by decide)]
  obtain ⟨m0, m1, m2, m3, m5, m6, m7, m8, m9, m10, mc⟩ := h
  refine ⟨m0, m1, m2, m3, m5, m6, m7, m8, m9, m10, fun c c0 c1 => ?_⟩
  rw [h1.2 (nf k + 1) c (by omega) (by unfold nf; omega), h2.2 44 _ (by decide) (by decide)]
  exact mc c c0 c1
theorem Cb.tr {n : Nat} {μ μ1 : am_M} (h1 : NE μ μ1) (h2 : BE μ μ1) (h43 : ∀ k, μ1 43 k = μ 43 k) (hh : ∀ j, μ1 2 j = μ 2 j) (hn : ∀ j, μ1 3 j = μ 3 j) (hC : Cb n μ) : Cb n μ1 := by
  obtain ⟨a, ⟨a2, a3, a4, a5, a6, a7, a8⟩, b, c⟩ := hC
  unfold Cb
  rw [h2.1 8 (by decide) (by decide), h2.1 7 (by decide) (by decide), h2.1 6 (by decide) (by decide), h2.1 5 (by decide) (by decide), h2.1 4 (by decide) (by decide), h2.1 3 (by decide) (by decide), h2.1 2 (by decide) (by decide), h1.1 2 (by decide) (by decide), h1.1 3 (by decide) (by decide), h1.1 4 (by decide) (by decide), h1.1 5 (by decide) (by decide), h1.1 6 (by decide) (by decide), h1.1 7 (by decide) (by decide), h1.1 8 (by decide) (by decide)]
  refine ⟨a, ⟨a2, a3, a4, a5, a6, a7, a8⟩, fun l l0 l1 => ?_, fun k k0 k1 => ?_⟩
  · rw [hh, h2.2 33 l (by decide) (by decide)]; exact b l l0 l1
  · rw [hn]; exact ⟨(c k k0 k1).1, (c k k0 k1).2.tr k0 h1 h2 (h43 k)⟩
/-- the class's work leaves the reference's cells alone -/
theorem Of.kbe {S : Int → Int → Prop} {μ μ1 : am_M} (h : Of S μ μ1) (hs : ∀ a j, S a j → Sk a j) : BE μ μ1 := ⟨fun j _ _ => h 32 j (fun z => by have := hs _ _ z; unfold Sk at this; omega), fun a j h1 h2 => h a j (fun z => by have := hs _ _ z; unfold Sk at this; omega)⟩
theorem Cb.k {n : Nat} {S : Int → Int → Prop} {μ μ1 : am_M} (hC : Cb n μ) (h : Of S μ μ1) (hs : ∀ a j, S a j → Sk a j) : Cb n μ1 := hC.tr (h.ne hs) (h.kbe hs) (fun k => h 43 k (fun z => by have := hs _ _ z; unfold Sk at this; omega)) (fun j => h 2 j (fun z => by have := hs _ _ z; unfold Sk at this; omega)) (fun j => h 3 j (fun z => by have := hs _ _ z; unfold Sk at this; omega))
theorem Bk.k {S : Int → Int → Prop} {μ μ1 : am_M} (hB : Bk μ) (h : Of S μ μ1) (hs : ∀ a j, S a j → Sk a j) : Bk μ1 := hB.tr (h.kbe hs)
/-- rows in words of notes: items alike but for the line tops -/
theorem ed_mr_sd {n : Nat} {μ : am_M} (hC : Cb n μ) {h g T c : Int} : ∀ {rw : List Int} {t : Int}, (∀ k ∈ rw, 0 ≤ k ∧ k < μ 32 8) → (∀ p k, rw = p ++ [k] → T = mr_tall μ c k true) → (rw_sd h g t (ed_its μ T (rw.map nf)) ↔ rw_sd h g t (mr_its μ c rw)) := by
  intro rw
  induction rw with
  | nil => intro t _ _; exact Iff.rfl
  | cons k r ih =>
    intro t hv hT
    obtain ⟨k0, k1⟩ := hv k List.mem_cons_self
    obtain ⟨-, m⟩ := hC.2.2.2 k k0 k1
    obtain ⟨m0, m1, m2, m3, m5, m6, m7, m8, m9, -⟩ := m
    have e1 : (ed_it μ T (nf k) (r.map nf).isEmpty).1 = mr_tall μ c k r.isEmpty := by
      cases r with
      | nil => exact hT [] k rfl
      | cons a b =>
        show μ (nf k) 8 = mr_tall μ c k false
        unfold mr_tall
        rw [if_pos (Or.inr rfl)]
        exact m8
    show (0 ≤ (ed_it μ T (nf k) (r.map nf).isEmpty).1 ∧ ¬ (0 ≤ μ (nf k) 9 ∧ μ (nf k) 9 < t) ∧ (if 0 ≤ μ (nf k) 9 then μ (nf k) 9 else t) + (ed_it μ T (nf k) (r.map nf).isEmpty).1 ≤ h ∧ rw_sd h g ((if 0 ≤ μ (nf k) 9 then μ (nf k) 9 else t) + (ed_it μ T (nf k) (r.map nf).isEmpty).1 + g) (ed_its μ T (r.map nf))) ↔ (0 ≤ mr_tall μ c k r.isEmpty ∧ ¬ (0 ≤ μ 42 k ∧ μ 42 k < t) ∧ (if 0 ≤ μ 42 k then μ 42 k else t) + mr_tall μ c k r.isEmpty ≤ h ∧ rw_sd h g ((if 0 ≤ μ 42 k then μ 42 k else t) + mr_tall μ c k r.isEmpty + g) (mr_its μ c r))
    rw [e1, m9, ih (fun z hz => hv z (List.mem_cons_of_mem _ hz)) (fun p z hp => hT (k :: p) z (by rw [hp]; rfl))]
theorem rw_sd_last {μ : am_M} {h g c k : Int} : ∀ {p : List Int} {t : Int}, rw_sd h g t (mr_its μ c (p ++ [k])) → 0 ≤ mr_tall μ c k true := by
  intro p
  induction p with
  | nil => intro t hs; exact hs.1
  | cons y p ih => intro t hs; exact ih hs.2.2.2
theorem mr_ch_snoc {μ : am_M} {p : List Int} {k : Int} : mr_ch μ (p ++ [k]) = if 0 ≤ μ 42 k then 1 else 1 + μ 41 k := by
  unfold mr_ch
  rw [List.getLast?_append]
  rfl
theorem ed_can_mr {n : Nat} {μ : am_M} (hB : Bk μ) (hC : Cb n μ) {rest : Int} {rw : List Int} (hv : ∀ k ∈ rw, 0 ≤ k ∧ k < μ 32 8) : ed_can μ (md_top0 μ rest) (rw.map nf) ↔ mr_can μ rest rw := by
  obtain ⟨-, ⟨-, -, c4, c5, c6, -⟩, -⟩ := id hC
  rcases List.eq_nil_or_concat rw with hp | ⟨p, k, hp⟩
  · rw [hp]
    exact ⟨fun _ => ⟨0, by decide, (show (0 : Int) < 1 by decide), trivial⟩, fun _ p x h => by cases p <;> cases h⟩
  rw [List.concat_eq_append] at hp
  obtain ⟨k0, k1⟩ := hv k (by rw [hp]; simp)
  obtain ⟨-, m⟩ := hC.2.2.2 k k0 k1
  obtain ⟨m0, m1, m2, m3, m5, m6, m7, m8, m9, m10, mc⟩ := m
  obtain ⟨-, b2, -, -, -, b6, b7, b8, b9, -, b11, b12⟩ := hB.2.2.2.2.2.2.2.2 k k0 k1
  have hmap : rw.map nf = p.map nf ++ [nf k] := by rw [hp]; simp
  have huniq : ∀ {q z}, rw = q ++ [z] → z = k := fun {q z} h => by
    rw [hp] at h
    have := (List.append_inj' h rfl).2
    simpa using this.symm
  have hch : mr_ch μ rw = if 0 ≤ μ 42 k then 1 else 1 + μ 41 k := by rw [hp]; exact mr_ch_snoc
  constructor
  · intro h
    rcases h (p.map nf) (nf k) hmap with h | ⟨c, c0, c1, ⟨h1, h2⟩, h3⟩
    · refine ⟨0, by decide, by rw [hch]; split <;> omega, ?_⟩
      rw [c4, c5] at h
      refine (ed_mr_sd hC hv (fun q z hq => ?_)).mp h
      rw [huniq hq, m8]
      unfold mr_tall
      rw [if_pos (Or.inl rfl)]
    · rw [m5] at c1
      have e1 := mc c c0 c1
      rw [m9] at h1
      rw [m0, e1, c4] at h2
      rw [e1, c4, c5] at h3
      refine ⟨c + 1, by omega, by rw [hch, if_neg (by omega)]; omega, ?_⟩
      refine (ed_mr_sd hC hv (fun q z hq => ?_)).mp h3
      rw [huniq hq]
      unfold mr_tall
      rw [if_neg (by simp; omega), show 3 * k + (c + 1) - 1 = 3 * k + c by omega, if_neg (by omega)]
  · rintro ⟨c, c0, c1, hs⟩ q z hq
    have hz : z = nf k := by
      rw [hmap] at hq
      have := (List.append_inj' hq rfl).2
      simpa using this.symm
    rw [hz, c4, c5]
    by_cases hc : c = 0
    · left
      refine (ed_mr_sd hC hv (fun q z hq => ?_)).mpr hs
      rw [huniq hq, m8]
      unfold mr_tall
      rw [if_pos (Or.inl hc)]
    · right
      rw [hch] at c1
      have hnf : ¬ 0 ≤ μ 42 k := fun z => by rw [if_pos z] at c1; omega
      rw [if_neg hnf] at c1
      have hta : mr_tall μ c k true = if μ 32 2 < μ 35 k - μ 44 (3 * k + c - 1) then -1 else μ 44 (3 * k + c - 1) := by
        unfold mr_tall
        rw [if_neg (by simp; omega)]
      have hpos : 0 ≤ mr_tall μ c k true := by rw [hp] at hs; exact rw_sd_last hs
      have hle : ¬ μ 32 2 < μ 35 k - μ 44 (3 * k + c - 1) := fun z => by rw [hta, if_pos z] at hpos; omega
      rw [if_neg hle] at hta
      have e1 := mc (c - 1) (by omega) (by omega)
      rw [show 3 * k + (c - 1) = 3 * k + c - 1 by omega] at e1
      refine ⟨c - 1, by omega, by rw [m5]; omega, ⟨by rw [m9]; omega, by rw [m0, e1]; omega⟩, ?_⟩
      refine (ed_mr_sd hC hv (fun q z hq => ?_)).mpr hs
      rw [huniq hq, hta, e1]
/-- what has no setting has none with more notes -/
theorem rw_sd_pre {μ : am_M} {h g c : Int} {q : List Int} (hq : q ≠ []) : ∀ {p : List Int} {t : Int}, rw_sd h g t (mr_its μ c (p ++ q)) → rw_sd h g t (mr_its μ 0 p) := by
  intro p
  induction p with
  | nil => intro t _; trivial
  | cons k p ih =>
    intro t hs
    have e : (p ++ q).isEmpty = false := by
      cases p with
      | nil => cases q with
        | nil => exact absurd rfl hq
        | cons a b => rfl
      | cons a b => rfl
    have e1 : mr_tall μ c k (p ++ q).isEmpty = mr_tall μ 0 k p.isEmpty := by
      rw [e]
      unfold mr_tall
      rw [if_pos (Or.inr rfl), if_pos (Or.inl rfl)]
    have hs : 0 ≤ mr_tall μ c k (p ++ q).isEmpty ∧ ¬ (0 ≤ μ 42 k ∧ μ 42 k < t) ∧ (if 0 ≤ μ 42 k then μ 42 k else t) + mr_tall μ c k (p ++ q).isEmpty ≤ h ∧ rw_sd h g ((if 0 ≤ μ 42 k then μ 42 k else t) + mr_tall μ c k (p ++ q).isEmpty + g) (mr_its μ c (p ++ q)) := hs
    rw [e1] at hs
    exact ⟨hs.1, hs.2.1, hs.2.2.1, ih hs.2.2.2⟩
theorem mr_can_pre {μ : am_M} (hB : Bk μ) {rest : Int} {p q : List Int} (hv : ∀ k ∈ p, 0 ≤ k ∧ k < μ 32 8) (h : mr_can μ rest (p ++ q)) : mr_can μ rest p := by
  cases q with
  | nil => rw [List.append_nil] at h; exact h
  | cons a b =>
    obtain ⟨c, c0, c1, hs⟩ := h
    exact ⟨0, by decide, by have := (mr_ch_pos hB hv).1; omega, rw_sd_pre (by simp) hs⟩

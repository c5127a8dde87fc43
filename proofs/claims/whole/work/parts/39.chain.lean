/-! what stands of one page and of a chain of pages; what of it outlasts other work -/
theorem mr_its_h {μ μ1 : am_M} (hb : BE μ μ1) (c : Int) : ∀ {rw : List Int}, (∀ k ∈ rw, μ1 49 (μ 34 k) = μ 49 (μ 34 k)) → mr_its μ1 c rw = mr_its μ c rw := by
  intro rw
  induction rw with
  | nil => intro _; rfl
  | cons k r ih =>
    intro h
    unfold mr_its
    rw [ih (fun k hk => h k (List.mem_cons_of_mem _ hk)), mr_tall_tr hb, hb.2 42 k (by decide) (by decide), hb.2 36 k (by decide) (by decide), hb.2 34 k (by decide) (by decide), h k List.mem_cons_self]
theorem mr_cost_h {μ μ1 : am_M} (hb : BE μ μ1) {rest : Int} {rw : List Int} (h : ∀ k ∈ rw, μ1 49 (μ 34 k) = μ 49 (μ 34 k)) : mr_cost μ1 rest rw = mr_cost μ rest rw := by
  funext c
  unfold mr_cost
  rw [mr_its_h hb c h, md_top0_tr hb, hb.1 2 (by decide) (by decide), hb.1 3 (by decide) (by decide), hb.1 4 (by decide) (by decide)]
theorem md_sc_h {μ μ1 : am_M} (hb : BE μ μ1) {rest : Int} {rw : List Int} (h : ∀ k ∈ rw, μ1 49 (μ 34 k) = μ 49 (μ 34 k)) : md_sc μ1 rest rw = md_sc μ rest rw := by
  unfold md_sc; rw [mr_cost_h hb h, mr_ch_tr hb]
theorem md_best_h {μ μ1 : am_M} (hb : BE μ μ1) {rest c : Int} {rw : List Int} (h : ∀ k ∈ rw, μ1 49 (μ 34 k) = μ 49 (μ 34 k)) : md_best μ1 rest rw c = md_best μ rest rw c := by
  unfold md_best; rw [mr_cost_h hb h, md_sc_h hb h, mr_ch_tr hb]
theorem md_rw_tr {μ μ1 : am_M} (hb : BE μ μ1) (s bits : Int) (H : List Int) : md_rw μ1 s bits H = md_rw μ s bits H := by
  unfold md_rw; rw [md_ei_tr hb, md_sds_tr hb]
theorem md_dc_h {μ μ1 : am_M} (hb : BE μ μ1) {a b : Int} {H : List Int} (h : ∀ k ∈ H, μ1 49 (μ 34 k) = μ 49 (μ 34 k)) : md_dc μ1 a b H = md_dc μ a b H := by
  funext bits
  unfold md_dc
  rw [md_rw_tr hb, md_rw_tr hb, md_sc_h hb (rw := md_rw μ 0 bits H) (fun k hk => h k (md_ro_mem hk)), md_sc_h hb (rw := md_rw μ 1 bits H) (fun k hk => h k (md_ro_mem hk))]
theorem Pq.to {μ μ1 μ' : am_M} {p s c : Int} {rw xs : List Int} (hb : BE μ μ1) (h : Pq μ μ' p s c rw xs) : Pq μ1 μ' p s c rw xs := by
  intro i k x hk hx
  obtain ⟨h1, h2, h3, h4, h5⟩ := h i k x hk hx
  rw [mr_tall_tr hb, hb.2 35 k (by decide) (by decide), hb.2 40 k (by decide) (by decide)]
  exact ⟨h1, h2, h3, h4, h5⟩
theorem PgB.to {μ μ1 μ' : am_M} {p a b : Int} {H : List Int} (hb : BE μ μ1) (h : ∀ k ∈ H, μ1 49 (μ 34 k) = μ 49 (μ 34 k)) (hP : PgB μ μ' p a b H) : PgB μ1 μ' p a b H := by
  obtain ⟨bits, c0, c1, xs0, xs1, h1, h2, h3, h4, h5, h6, h7, h8, h9, h10⟩ := hP
  have hr : ∀ s, ∀ k ∈ md_rw μ s bits H, μ1 49 (μ 34 k) = μ 49 (μ 34 k) := fun s k hk => h k (md_ro_mem hk)
  refine ⟨bits, c0, c1, xs0, xs1, ?_, h2, ?_, ?_, ?_, ?_, ?_, ?_, ?_, ?_⟩
  · rw [md_dc_h hb h, md_ei_tr hb]; exact h1
  · rw [md_rw_tr hb, md_best_h hb (hr 0)]; exact h3
  · rw [md_rw_tr hb, md_best_h hb (hr 1)]; exact h4
  · rw [md_rw_tr hb, mr_its_h hb c0 (hr 0), md_top0_tr hb, hb.1 2 (by decide) (by decide), hb.1 3 (by decide) (by decide)]; exact h5
  · rw [md_rw_tr hb]; exact h6.to hb
  · rw [md_rw_tr hb, mr_its_h hb c1 (hr 1), md_top0_tr hb, hb.1 2 (by decide) (by decide), hb.1 3 (by decide) (by decide)]; exact h7
  · rw [md_rw_tr hb]; exact h8.to hb
  · rw [md_rw_tr hb, mr_carry_tr hb]; exact h9
  · rw [md_rw_tr hb, mr_carry_tr hb]; exact h10
theorem PgB.keep {μ μ' μ2 : am_M} {p a b : Int} {H : List Int} (hP : PgB μ μ' p a b H) (h48 : μ2 48 p = μ' 48 p) (h47 : μ2 47 (2 * p + 2) = μ' 47 (2 * p + 2)) (h47' : μ2 47 (2 * p + 3) = μ' 47 (2 * p + 3)) (hk : ∀ q k, 51 ≤ q → q ≤ 55 → k ∈ H → μ2 q k = μ' q k) : PgB μ μ2 p a b H := by
  obtain ⟨bits, c0, c1, xs0, xs1, h1, h2, h3, h4, h5, h6, h7, h8, h9, h10⟩ := hP
  refine ⟨bits, c0, c1, xs0, xs1, ?_, ?_, h3, h4, h5, h6.keep (fun q k q1 q2 hm => hk q k q1 q2 (md_ro_mem hm)), h7, h8.keep (fun q k q1 q2 hm => hk q k q1 q2 (md_ro_mem hm)), ?_, ?_⟩
  · rw [h48]; exact h1
  · rw [h48]; exact h2
  · rw [h47]; exact h9
  · rw [h47']; exact h10
theorem md_setB_tr {μ μ1 : am_M} (hb : BE μ μ1) (k : Int) : md_setB μ1 k = md_setB μ k := by
  unfold md_setB; rw [hb.1 6 (by decide) (by decide), hb.1 5 (by decide) (by decide), hb.2 38 k (by decide) (by decide)]
theorem md_nt_tr {μ μ1 : am_M} (hb : BE μ μ1) (l : Int) : ∀ m : Nat, md_nt μ1 l m = md_nt μ l m := by
  intro m
  induction m with
  | zero => rfl
  | succ m ih => unfold md_nt; rw [ih, md_setB_tr hb, hb.2 34 _ (by decide) (by decide)]
theorem md_hr_tr {μ μ1 : am_M} (hb : BE μ μ1) (fr : Int) : ∀ m : Nat, md_hr μ1 fr m = md_hr μ fr m := by
  intro m
  induction m with
  | zero => rfl
  | succ m ih => unfold md_hr; rw [ih, md_nt_tr hb, hb.1 8 (by decide) (by decide)]
theorem md_ls_tr {μ μ1 : am_M} (hb : BE μ μ1) (fr : Int) : ∀ m : Nat, md_ls μ1 fr m = md_ls μ fr m := by
  intro m
  induction m with
  | zero => rfl
  | succ m ih => unfold md_ls; rw [ih, hb.2 33 _ (by decide) (by decide)]
theorem rw_sd_its {μ μ1 : am_M} (hb : BE μ μ1) (h g c : Int) : ∀ (rw : List Int) (t : Int), rw_sd h g t (mr_its μ1 c rw) = rw_sd h g t (mr_its μ c rw) := by
  intro rw
  induction rw with
  | nil => intro t; rfl
  | cons k r ih =>
    intro t
    unfold mr_its rw_sd
    rw [mr_tall_tr hb, hb.2 42 k (by decide) (by decide), ih]
theorem mr_can_be {μ μ1 : am_M} (hb : BE μ μ1) (rest : Int) (rw : List Int) : mr_can μ1 rest rw = mr_can μ rest rw := by
  unfold mr_can
  simp only [rw_sd_its hb, mr_ch_tr hb, md_top0_tr hb, hb.1 2 (by decide) (by decide), hb.1 3 (by decide) (by decide)]
theorem md_held_be {μ μ1 : am_M} (hb : BE μ μ1) (fr many a b : Int) : md_held μ1 fr many a b = md_held μ fr many a b := by
  unfold md_held
  simp only [mr_can_be hb, md_sds_tr hb, md_ei_tr hb, md_hr_tr hb, md_ls_tr hb, hb.1 2 (by decide) (by decide)]
theorem md_hr_app {μ : am_M} {fr : Int} {m : Nat} : ∀ k : Nat, md_hr μ fr (m + k) = md_hr μ fr m ++ md_hr μ (fr + (m : Int)) k := by
  intro k
  induction k with
  | zero => show _ = _ ++ []; rw [List.append_nil]; rfl
  | succ k ih =>
    show md_hr μ fr (m + k) ++ md_nt μ (fr + ((m + k : Nat) : Int)) _ = md_hr μ fr m ++ (md_hr μ (fr + (m : Int)) k ++ md_nt μ (fr + (m : Int) + (k : Int)) _)
    rw [ih, List.append_assoc, show fr + ((m + k : Nat) : Int) = fr + (m : Int) + (k : Int) by omega]
/-- where a page begins -/
def frP (μ : am_M) (p : Int) : Int := if p = 0 then 0 else μ 45 (p - 1) + μ 46 (p - 1)
/-- the lines end where they must -/
def MX (μ : am_M) (fr many a b : Int) : Prop := (∀ m, 0 < m → m ≤ many → md_held μ fr m a b) ∧ (fr + many < μ 32 7 → ¬ md_held μ fr (many + 1) a b)
/-- page p stands -/
def PgR (μ : am_M) (p : Int) : Prop := μ 45 p = frP μ p ∧ (0 ≤ μ 45 p ∧ 0 ≤ μ 46 p ∧ μ 45 p + μ 46 p ≤ μ 32 7) ∧ (0 < μ 46 p ∨ 0 < μ 47 (2 * p) ∨ 0 < μ 47 (2 * p + 1)) ∧ MX μ (μ 45 p) (μ 46 p) (μ 47 (2 * p)) (μ 47 (2 * p + 1)) ∧ (∀ l, μ 45 p ≤ l → l < μ 45 p + μ 46 p → μ 49 l = md_ls μ (μ 45 p) (l - μ 45 p).toNat ∧ μ 50 l = p) ∧ PgB μ μ p (μ 47 (2 * p)) (μ 47 (2 * p + 1)) (md_hr μ (μ 45 p) (μ 46 p).toNat)
def PgC (μ : am_M) (p : Int) : Prop := (0 ≤ μ 47 (2 * p) ∧ μ 47 (2 * p) ≤ 100) ∧ (0 ≤ μ 47 (2 * p + 1) ∧ μ 47 (2 * p + 1) ≤ 100) ∧ p + (if 0 < μ 47 (2 * p) ∨ 0 < μ 47 (2 * p + 1) then 1 else 0) ≤ frP μ p + ((md_hr μ 0 (frP μ p).toNat).length : Int) ∧ 0 ≤ frP μ p ∧ frP μ p ≤ μ 32 7
def Chain (μ : am_M) (P : Int) : Prop := 0 ≤ P ∧ (μ 47 0 = 0 ∧ μ 47 1 = 0) ∧ (∀ p, 0 ≤ p → p < P → PgR μ p) ∧ ∀ p, 0 ≤ p → p ≤ P → PgC μ p
theorem MX_be {μ μ1 : am_M} (hb : BE μ μ1) (fr many a b : Int) : MX μ1 fr many a b = MX μ fr many a b := by
  unfold MX; simp only [md_held_be hb, hb.1 7 (by decide) (by decide)]
theorem frP_ge {μ : am_M} {P : Int} (h : ∀ p, 0 ≤ p → p < P → PgR μ p) : ∀ (d : Nat) (p : Int), 0 ≤ p → p + 1 + d = P → μ 45 p + μ 46 p ≤ frP μ P := by
  intro d
  induction d with
  | zero =>
    intro p h0 h1
    unfold frP
    rw [if_neg (by omega), show P - 1 = p by omega]
    exact Int.le_refl _
  | succ d ih =>
    intro p h0 h1
    have h2 := ih (p + 1) (by omega) (by omega)
    have h3 := h (p + 1) (by omega) (by omega)
    have h4 := h3.1
    unfold frP at h4
    rw [if_neg (by omega), show p + 1 - 1 = p by omega] at h4
    have := h3.2.1
    omega
/-- a chain outlasts what does not touch it -/
theorem PgR.keep {μ μ1 : am_M} {p : Int} (hb : BE μ μ1) (h0 : 0 ≤ p) (hP : PgR μ p) (h45 : ∀ q, 0 ≤ q → q ≤ p → μ1 45 q = μ 45 q) (h46 : ∀ q, 0 ≤ q → q ≤ p → μ1 46 q = μ 46 q) (h47 : ∀ j, 2 * p ≤ j → j ≤ 2 * p + 3 → μ1 47 j = μ 47 j) (h48 : μ1 48 p = μ 48 p) (h49 : ∀ l, μ 45 p ≤ l → l < μ 45 p + μ 46 p → μ1 49 l = μ 49 l ∧ μ1 50 l = μ 50 l) (h51 : ∀ q k, 51 ≤ q → q ≤ 55 → μ 45 p ≤ μ 34 k → μ 34 k < μ 45 p + μ 46 p → μ1 q k = μ q k) : PgR μ1 p := by
  obtain ⟨k1, k2, k3, k4, k5, k6⟩ := hP
  have hm : ∀ k ∈ md_hr μ (μ 45 p) (μ 46 p).toNat, μ 45 p ≤ μ 34 k ∧ μ 34 k < μ 45 p + μ 46 p := fun k hk => by
    have := md_hr_mem hk; omega
  unfold PgR
  rw [h45 p h0 (Int.le_refl _), h46 p h0 (Int.le_refl _), h47 _ (by omega) (by omega), h47 _ (by omega) (by omega), hb.1 7 (by decide) (by decide), MX_be hb, md_hr_tr hb]
  refine ⟨?_, k2, k3, k4, fun l l0 l1 => ?_, ?_⟩
  · rw [k1]
    unfold frP
    split
    · rfl
    · rw [h45 _ (by omega) (by omega), h46 _ (by omega) (by omega)]
  · rw [md_ls_tr hb, (h49 l l0 l1).1, (h49 l l0 l1).2]
    exact k5 l l0 l1
  · refine PgB.keep (PgB.to hb (fun k hk => (h49 _ (hm k hk).1 (hm k hk).2).1) k6) h48 (h47 _ (by omega) (by omega)) (h47 _ (by omega) (by omega)) (fun q k q1 q2 hk => h51 q k q1 q2 (hm k hk).1 (hm k hk).2)
theorem PgC.keep {μ μ1 : am_M} {p : Int} (hb : BE μ μ1) (h0 : 0 ≤ p) (hP : PgC μ p) (h45 : ∀ q, 0 ≤ q → q < p → μ1 45 q = μ 45 q ∧ μ1 46 q = μ 46 q) (h47 : μ1 47 (2 * p) = μ 47 (2 * p)) (h47' : μ1 47 (2 * p + 1) = μ 47 (2 * p + 1)) : PgC μ1 p := by
  have e : frP μ1 p = frP μ p := by
    unfold frP
    split
    · rfl
    · rw [(h45 _ (by omega) (by omega)).1, (h45 _ (by omega) (by omega)).2]
  unfold PgC
  rw [e, h47, h47', md_hr_tr hb, hb.1 7 (by decide) (by decide)]
  exact hP
theorem Chain.keep {μ μ1 : am_M} {P : Int} (hb : BE μ μ1) (hC : Chain μ P) (h45 : ∀ q, 0 ≤ q → q < P → μ1 45 q = μ 45 q ∧ μ1 46 q = μ 46 q ∧ μ1 48 q = μ 48 q) (h47 : ∀ j, 0 ≤ j → j ≤ 2 * P + 1 → μ1 47 j = μ 47 j) (h49 : ∀ l, l < frP μ P → μ1 49 l = μ 49 l ∧ μ1 50 l = μ 50 l) (h51 : ∀ q k, 51 ≤ q → q ≤ 55 → μ 34 k < frP μ P → μ1 q k = μ q k) : Chain μ1 P := by
  obtain ⟨h0, ⟨c1, c2⟩, c3, c4⟩ := hC
  refine ⟨h0, ⟨by rw [h47 0 (by decide) (by omega)]; exact c1, by rw [h47 1 (by decide) (by omega)]; exact c2⟩, fun p p0 p1 => ?_, fun p p0 p1 => ?_⟩
  · have hg := frP_ge c3 (P - p - 1).toNat p p0 (by omega)
    exact (c3 p p0 p1).keep hb p0 (fun q q0 q1 => (h45 q q0 (by omega)).1) (fun q q0 q1 => (h45 q q0 (by omega)).2.1) (fun j j0 j1 => h47 j (by omega) (by omega)) (h45 p p0 p1).2.2 (fun l l0 l1 => h49 l (by omega)) (fun q k q1 q2 l0 l1 => h51 q k q1 q2 (by omega))
  · exact (c4 p p0 p1).keep hb p0 (fun q q0 q1 => ⟨(h45 q q0 (by omega)).1, (h45 q q0 (by omega)).2.1⟩) (h47 _ (by omega) (by omega)) (h47 _ (by omega) (by omega))
/-- the scratch -/
def Sc (a j : Int) : Prop := (56 ≤ a ∧ a ≤ 65) ∨ (a = 32 ∧ (j ≤ 1 ∨ j = 21 ∨ j = 22 ∨ j = 23 ∨ j = 39 ∨ j = 40))
theorem Sc_Sw : ∀ a j, Sc a j → Sw a j := fun a j h => by unfold Sc at h; unfold Sw; omega
theorem Chain.sc {μ μ1 : am_M} {P : Int} (h : Of Sc μ μ1) (hC : Chain μ P) : Chain μ1 P := hC.keep (h.mono Sc_Sw).beW (fun q _ _ => ⟨h 45 q (by unfold Sc; omega), h 46 q (by unfold Sc; omega), h 48 q (by unfold Sc; omega)⟩) (fun j _ _ => h 47 j (by unfold Sc; omega)) (fun l _ => ⟨h 49 l (by unfold Sc; omega), h 50 l (by unfold Sc; omega)⟩) (fun q k q1 q2 _ => h q k (by unfold Sc; omega))
theorem Sh_Sc : ∀ a j, Sh a j → Sc a j := fun a j h => by unfold Sh at h; unfold Sc; omega
theorem mr_carry_b {μ : am_M} (hB : Bk μ) {c t : Int} {rw xs : List Int} (hv : ∀ k ∈ rw, 0 ≤ k ∧ k < μ 32 8) (hc0 : 0 ≤ c) (hc1 : c < mr_ch μ rw) (hg : rw_gr (μ 32 2) (μ 32 3) t (mr_its μ c rw) xs) : 0 ≤ mr_carry μ c rw ∧ mr_carry μ c rw ≤ 100 ∧ (0 < mr_carry μ c rw → rw ≠ []) := by
  have htall : ∀ (rw : List Int) (t : Int) (xs : List Int), rw_gr (μ 32 2) (μ 32 3) t (mr_its μ c rw) xs → ∀ k, rw.getLast? = some k → 0 ≤ mr_tall μ c k true := by
    intro rw
    induction rw with
    | nil => intro t xs _ k hk; simp at hk
    | cons y r ih =>
      intro t xs hg k hk
      cases xs with
      | nil => unfold mr_its rw_gr at hg; exact absurd hg id
      | cons x ys =>
        unfold mr_its rw_gr at hg
        cases r with
        | nil =>
          have e : y = k := by simpa using hk
          have := hg.1.2.2.1.1
          rw [← e]
          exact this
        | cons y2 r2 =>
          rw [List.getLast?_cons_cons] at hk
          exact ih _ _ hg.2.2 k hk
  unfold mr_carry
  cases hl : rw.getLast? with
  | none => simp
  | some k =>
    have hk := hv k (List.mem_of_getLast? hl)
    have ht := htall rw t xs hg k hl
    obtain ⟨-, n2, -, -, -, n6, n7, n8, -, -, n11, n12⟩ := hB.2.2.2.2.2.2.2.2 _ hk.1 hk.2
    have hch : mr_ch μ rw = if 0 ≤ μ 42 k then 1 else 1 + μ 41 k := by unfold mr_ch; rw [hl]
    rw [hch] at hc1
    show 0 ≤ μ 35 k + μ 40 k - mr_tall μ c k true ∧ μ 35 k + μ 40 k - mr_tall μ c k true ≤ 100 ∧ (_ → _)
    refine ⟨?_, ?_, fun _ => ?_⟩
    · have := mr_tall_b hB (c := c) (la := true) hk hc0 (fun _ => by split at hc1 <;> omega)
      omega
    · by_cases hc : c = 0
      · unfold mr_tall; rw [if_pos (Or.inl hc)]; omega
      · have hcc : μ 40 k ≤ 0 := by
          have : ¬ 0 < μ 39 k := fun z => by have := n12 z; split at hc1 <;> omega
          omega
        omega
    · intro e; rw [e] at hl; simp at hl

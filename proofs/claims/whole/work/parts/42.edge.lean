/-! the class: an Edge (18 left, 25 right): its layout; isFixed, leavesAtMost; pull -/
theorem kdE0 {e : Int} (h : e = 18 ∨ e = 25) : am_kind e = (0, 2) := by
  rcases h with rfl | rfl
  · exact kd_18
  · exact kd_25
theorem kdE1 {e : Int} (h : e = 18 ∨ e = 25) : am_kind (e + 1) = (3, 24) := by
  rcases h with rfl | rfl
  · exact kd_19
  · exact kd_26
theorem kdE2 {e : Int} (h : e = 18 ∨ e = 25) : am_kind (e + 2) = (1, 24) := by
  rcases h with rfl | rfl
  · exact kd_20
  · exact kd_27
theorem kdE3 {e : Int} (h : e = 18 ∨ e = 25) : am_kind (e + 3) = (1, 24) := by
  rcases h with rfl | rfl
  · exact kd_21
  · exact kd_28
theorem kdE4 {e : Int} (h : e = 18 ∨ e = 25) : am_kind (e + 4) = (1, 24) := by
  rcases h with rfl | rfl
  · exact kd_22
  · exact kd_29
theorem kdE5 {e : Int} (h : e = 18 ∨ e = 25) : am_kind (e + 5) = (1, 24) := by
  rcases h with rfl | rfl
  · exact kd_23
  · exact kd_30
theorem kdE6 {e : Int} (h : e = 18 ∨ e = 25) : am_kind (e + 6) = (1, 24) := by
  rcases h with rfl | rfl
  · exact kd_24
  · exact kd_31
theorem lyE0 {n : Nat} {μ : am_M} (hl : Lay n μ) {e : Int} (h : e = 18 ∨ e = 25) : μ e 0 = 1 := by
  rcases h with rfl | rfl
  · exact ly_18_0 hl
  · exact ly_25_0 hl
theorem lyE2 {n : Nat} {μ : am_M} (hl : Lay n μ) {e : Int} (h : e = 18 ∨ e = 25) : μ e 2 = e + 1 := by
  rcases h with rfl | rfl
  · exact ly_18_2 hl
  · exact ly_25_2 hl
theorem lyE3 {n : Nat} {μ : am_M} (hl : Lay n μ) {e : Int} (h : e = 18 ∨ e = 25) : μ e 3 = e + 2 := by
  rcases h with rfl | rfl
  · exact ly_18_3 hl
  · exact ly_25_3 hl
theorem lyE4 {n : Nat} {μ : am_M} (hl : Lay n μ) {e : Int} (h : e = 18 ∨ e = 25) : μ e 4 = e + 3 := by
  rcases h with rfl | rfl
  · exact ly_18_4 hl
  · exact ly_25_4 hl
theorem lyE5 {n : Nat} {μ : am_M} (hl : Lay n μ) {e : Int} (h : e = 18 ∨ e = 25) : μ e 5 = e + 4 := by
  rcases h with rfl | rfl
  · exact ly_18_5 hl
  · exact ly_25_5 hl
theorem lyE6 {n : Nat} {μ : am_M} (hl : Lay n μ) {e : Int} (h : e = 18 ∨ e = 25) : μ e 6 = e + 5 := by
  rcases h with rfl | rfl
  · exact ly_18_6 hl
  · exact ly_25_6 hl
theorem lyE7 {n : Nat} {μ : am_M} (hl : Lay n μ) {e : Int} (h : e = 18 ∨ e = 25) : μ e 7 = e + 6 := by
  rcases h with rfl | rfl
  · exact ly_18_7 hl
  · exact ly_25_7 hl
theorem lfE8 {n : Nat} {μ : am_M} {x : Int} (hl : Lay n μ) {e : Int} (h : e = 18 ∨ e = 25) : Lay n (am_set μ e 8 x) := by
  rcases h with rfl | rfl
  · exact Lay.setF lf_18_8 hl
  · exact Lay.setF lf_25_8 hl
theorem lfE9 {n : Nat} {μ : am_M} {x : Int} (hl : Lay n μ) {e : Int} (h : e = 18 ∨ e = 25) : Lay n (am_set μ e 9 x) := by
  rcases h with rfl | rfl
  · exact Lay.setF lf_18_9 hl
  · exact Lay.setF lf_25_9 hl
theorem lfE10 {n : Nat} {μ : am_M} {x : Int} (hl : Lay n μ) {e : Int} (h : e = 18 ∨ e = 25) : Lay n (am_set μ e 10 x) := by
  rcases h with rfl | rfl
  · exact Lay.setF lf_18_10 hl
  · exact Lay.setF lf_25_10 hl
theorem lfE11 {n : Nat} {μ : am_M} {x : Int} (hl : Lay n μ) {e : Int} (h : e = 18 ∨ e = 25) : Lay n (am_set μ e 11 x) := by
  rcases h with rfl | rfl
  · exact Lay.setF lf_18_11 hl
  · exact Lay.setF lf_25_11 hl
theorem lfE12 {n : Nat} {μ : am_M} {x : Int} (hl : Lay n μ) {e : Int} (h : e = 18 ∨ e = 25) : Lay n (am_set μ e 12 x) := by
  rcases h with rfl | rfl
  · exact Lay.setF lf_18_12 hl
  · exact Lay.setF lf_25_12 hl
theorem laE1 {n : Nat} {μ : am_M} {i x : Int} (hl : Lay n μ) {e : Int} (h : e = 18 ∨ e = 25) : Lay n (am_set μ (e + 1) i x) := by
  rcases h with rfl | rfl
  · exact Lay.setA la_19 hl
  · exact Lay.setA la_26 hl
theorem laE2 {n : Nat} {μ : am_M} {i x : Int} (hl : Lay n μ) {e : Int} (h : e = 18 ∨ e = 25) : Lay n (am_set μ (e + 2) i x) := by
  rcases h with rfl | rfl
  · exact Lay.setA la_20 hl
  · exact Lay.setA la_27 hl
theorem laE3 {n : Nat} {μ : am_M} {i x : Int} (hl : Lay n μ) {e : Int} (h : e = 18 ∨ e = 25) : Lay n (am_set μ (e + 3) i x) := by
  rcases h with rfl | rfl
  · exact Lay.setA la_21 hl
  · exact Lay.setA la_28 hl
theorem laE4 {n : Nat} {μ : am_M} {i x : Int} (hl : Lay n μ) {e : Int} (h : e = 18 ∨ e = 25) : Lay n (am_set μ (e + 4) i x) := by
  rcases h with rfl | rfl
  · exact Lay.setA la_22 hl
  · exact Lay.setA la_29 hl
theorem laE5 {n : Nat} {μ : am_M} {i x : Int} (hl : Lay n μ) {e : Int} (h : e = 18 ∨ e = 25) : Lay n (am_set μ (e + 5) i x) := by
  rcases h with rfl | rfl
  · exact Lay.setA la_23 hl
  · exact Lay.setA la_30 hl
theorem laE6 {n : Nat} {μ : am_M} {i x : Int} (hl : Lay n μ) {e : Int} (h : e = 18 ∨ e = 25) : Lay n (am_set μ (e + 6) i x) := by
  rcases h with rfl | rfl
  · exact Lay.setA la_24 hl
  · exact Lay.setA la_31 hl
/-- what the class's own work changes -/
def Sk (a j : Int) : Prop := (5 ≤ a ∧ a ≤ 11) ∨ a = 13 ∨ a = 14 ∨ a = 16 ∨ (19 ≤ a ∧ a ≤ 24) ∨ (26 ≤ a ∧ a ≤ 31) ∨ (a = 4 ∧ 3 ≤ j ∧ j ≤ 5) ∨ (a = 15 ∧ j = 1) ∨ (a = 17 ∧ (j = 2 ∨ j = 3 ∨ j = 5 ∨ j = 6)) ∨ ((a = 18 ∨ a = 25) ∧ 8 ≤ j ∧ j ≤ 12) ∨ (66 ≤ a ∧ a % 2 = 0 ∧ 11 ≤ j ∧ j ≤ 15)
theorem am_layWk2 : am_layL.all (fun q => decide (q.1 < 66) && !(decide ((5 ≤ q.1 ∧ q.1 ≤ 11) ∨ q.1 = 13 ∨ q.1 = 14 ∨ q.1 = 16 ∨ (19 ≤ q.1 ∧ q.1 ≤ 24) ∨ (26 ≤ q.1 ∧ q.1 ≤ 31) ∨ (q.1 = 4 ∧ 3 ≤ q.2.1 ∧ q.2.1 ≤ 5) ∨ (q.1 = 15 ∧ q.2.1 = 1) ∨ (q.1 = 17 ∧ (q.2.1 = 2 ∨ q.2.1 = 3 ∨ q.2.1 = 5 ∨ q.2.1 = 6)) ∨ ((q.1 = 18 ∨ q.1 = 25) ∧ 8 ≤ q.2.1 ∧ q.2.1 ≤ 12)))) = true := by decide +kernel
theorem Lay.ofK {n : Nat} {μ μ1 : am_M} (hl : Lay n μ) (h : Of Sk μ μ1) : Lay n μ1 := hl.of h (fun q hq z => by
  have := List.all_eq_true.mp am_layWk2 q hq
  simp only [Bool.and_eq_true, Bool.not_eq_true', decide_eq_false_iff_not, decide_eq_true_eq] at this
  unfold Sk at z
  omega) (fun a ha z => by unfold Sk at z; omega)
theorem Lay.ofS {S : Int → Int → Prop} {n : Nat} {μ μ1 : am_M} (hl : Lay n μ) (h : Of S μ μ1) (hs : ∀ a j, S a j → Sk a j) : Lay n μ1 := hl.ofK (h.mono hs)
/-- a NOTE's cell -/
def Nr (n : Nat) (x : Int) : Prop := 66 ≤ x ∧ x < (n : Int) ∧ x % 2 = 0
theorem Nr.k {n : Nat} {x : Int} (h : Nr n x) : am_kind x = (0, 3) := kd_note h.1 h.2.2
theorem Nr.c {n : Nat} {x : Int} (h : Nr n x) : am_kind (x + 1) = (1, 3) := kd_cuts (by have := h.1; omega) (by have := h.2.2; omega)
theorem Nr.l {n : Nat} {μ : am_M} {x : Int} (h : Nr n x) (hl : Lay n μ) : μ x 4 = x + 1 := hl.2 x h.1 h.2.1 h.2.2
theorem pX3_isFixed (n : Nat) (μ : am_M) (a : Int) (hk_a : am_kind a = (0, 3)) : AC 33 [(2, a)] n μ (PB (μ a 9 ≠ -1) n μ) := by
  refine AC.of rfl ?_
  refine aw_aload_n (q := 1) mX3_isFixed dX3_isFixed_0 rfl rfl ?_
  refine aw_get (t := 0) (ji := 9) (q := 4) mX3_isFixed dX3_isFixed_1 rfl f3_15 rfl hk_a rfl rfl ?_
  refine aw_iconst (q := 5) mX3_isFixed dX3_isFixed_4 rfl rfl ?_
  refine aw_icmp_eq (tgt := 12) (q := 8) mX3_isFixed dX3_isFixed_5 rfl (by decide) (fun c_5 => ?_) (fun c_5 => ?_)
  · refine aw_iconst (q := 13) mX3_isFixed dX3_isFixed_12 rfl rfl ?_
    refine aw_zret mX3_isFixed dX3_isFixed_13 (by first | exact Or.inl rfl | exact Or.inr rfl | assumption | omega) ?_
    exact ⟨0, rfl, rfl, rfl, Or.inr ⟨rfl, fun z => z c_5⟩⟩
  · refine aw_iconst (q := 9) mX3_isFixed dX3_isFixed_8 rfl rfl ?_
    refine aw_goto (q := 13) mX3_isFixed dX3_isFixed_9 (by decide) ?_
    refine aw_zret mX3_isFixed dX3_isFixed_13 (by first | exact Or.inl rfl | exact Or.inr rfl | assumption | omega) ?_
    exact ⟨1, rfl, rfl, rfl, Or.inl ⟨rfl, c_5⟩⟩
theorem pX3_leavesAtMost (n : Nat) (μ : am_M) (a h t : Int) (hk_a : am_kind a = (0, 3)) (h0 : -1000 ≤ μ a 0 - t) (h1 : μ a 0 - t ≤ 1000) : AC 34 [(2, a), (0, h), (0, t)] n μ (PB (μ a 9 = -1 ∧ μ a 0 - t ≤ h) n μ) := by
  refine AC.of rfl ?_
  refine aw_aload_n (q := 1) mX3_leavesAtMost dX3_leavesAtMost_0 rfl rfl ?_
  refine aw_get (t := 0) (ji := 9) (q := 4) mX3_leavesAtMost dX3_leavesAtMost_1 rfl f3_15 rfl hk_a rfl rfl ?_
  refine aw_iconst (q := 5) mX3_leavesAtMost dX3_leavesAtMost_4 rfl rfl ?_
  refine aw_icmp_ne (tgt := 22) (q := 8) mX3_leavesAtMost dX3_leavesAtMost_5 rfl (by decide) (fun c_5 => ?_) (fun c_5 => ?_)
  · refine aw_iconst (q := 23) mX3_leavesAtMost dX3_leavesAtMost_22 rfl rfl ?_
    refine aw_zret mX3_leavesAtMost dX3_leavesAtMost_23 (by first | exact Or.inl rfl | exact Or.inr rfl | assumption | omega) ?_
    exact ⟨0, rfl, rfl, rfl, Or.inr ⟨rfl, fun z => c_5 z.1⟩⟩
  · refine aw_aload_n (q := 9) mX3_leavesAtMost dX3_leavesAtMost_8 rfl rfl ?_
    refine aw_get (t := 0) (ji := 0) (q := 12) mX3_leavesAtMost dX3_leavesAtMost_9 rfl f3_25 rfl hk_a rfl rfl ?_
    refine aw_iload_n (q := 13) mX3_leavesAtMost dX3_leavesAtMost_12 rfl rfl ?_
    refine aw_isub (q := 14) mX3_leavesAtMost dX3_leavesAtMost_13 rfl (by omega) (by omega) ?_
    refine aw_iload_n (q := 15) mX3_leavesAtMost dX3_leavesAtMost_14 rfl rfl ?_
    refine aw_icmp_gt (tgt := 22) (q := 18) mX3_leavesAtMost dX3_leavesAtMost_15 rfl (by decide) (fun c_15 => ?_) (fun c_15 => ?_)
    · refine aw_iconst (q := 23) mX3_leavesAtMost dX3_leavesAtMost_22 rfl rfl ?_
      refine aw_zret mX3_leavesAtMost dX3_leavesAtMost_23 (by first | exact Or.inl rfl | exact Or.inr rfl | assumption | omega) ?_
      exact ⟨0, rfl, rfl, rfl, Or.inr ⟨rfl, fun z => by have := z.2; omega⟩⟩
    · refine aw_iconst (q := 19) mX3_leavesAtMost dX3_leavesAtMost_18 rfl rfl ?_
      refine aw_goto (q := 23) mX3_leavesAtMost dX3_leavesAtMost_19 (by decide) ?_
      refine aw_zret mX3_leavesAtMost dX3_leavesAtMost_23 (by first | exact Or.inl rfl | exact Or.inr rfl | assumption | omega) ?_
      exact ⟨1, rfl, rfl, rfl, Or.inl ⟨rfl, Decidable.not_not.mp c_5, by omega⟩⟩
/-- bends of an Edge from place k on, the last one first -/
def Bx (μ : am_M) (e : Int) : iso_B → Int → Prop
  | [], _ => True
  | q :: r, k => μ (e + 5) (k + (r.length : Int)) = q.1 ∧ μ (e + 6) (k + (r.length : Int)) = q.2 ∧ Bx μ e r k
theorem Bx.app {μ : am_M} {e : Int} {l : iso_B} : ∀ {r : iso_B} {k : Int}, Bx μ e (r ++ l) k ↔ Bx μ e r (k + (l.length : Int)) ∧ Bx μ e l k := by
  intro r
  induction r with
  | nil => intro k; simp [Bx]
  | cons q r ih =>
    intro k
    show (_ ∧ _ ∧ Bx μ e (r ++ l) k) ↔ (_ ∧ _ ∧ Bx μ e r _) ∧ _
    rw [ih, show (r.append l).length = r.length + l.length from List.length_append, show k + ((r.length + l.length : Nat) : Int) = k + (l.length : Int) + (r.length : Int) by omega]
    constructor
    · rintro ⟨a, b, c, d⟩; exact ⟨⟨a, b, c⟩, d⟩
    · rintro ⟨⟨a, b, c⟩, d⟩; exact ⟨a, b, c, d⟩
theorem Bx.to {μ μ1 : am_M} {e : Int} : ∀ {r : iso_B} {k : Int}, (∀ j, k ≤ j → j < k + (r.length : Int) → μ1 (e + 5) j = μ (e + 5) j ∧ μ1 (e + 6) j = μ (e + 6) j) → Bx μ e r k → Bx μ1 e r k := by
  intro r
  induction r with
  | nil => intro k _ _; trivial
  | cons q r ih =>
    intro k h hb
    obtain ⟨a, b, c⟩ := hb
    simp only [List.length_cons] at h
    have h1 := h (k + (r.length : Int)) (by omega) (by omega)
    exact ⟨by rw [h1.1]; exact a, by rw [h1.2]; exact b, ih (fun j j0 j1 => h j j0 (by omega)) c⟩
theorem mul_bd {t d : Int} (h0 : 0 ≤ t) (h1 : -400 ≤ d) (h2 : d ≤ 400) : -(400 * t) ≤ t * d ∧ t * d ≤ 400 * t := by
  have a := Int.mul_le_mul_of_nonneg_left h1 h0
  have b := Int.mul_le_mul_of_nonneg_left h2 h0
  have c : t * -400 = -(400 * t) := by rw [Int.mul_comm]; omega
  have d : t * 400 = 400 * t := Int.mul_comm _ _
  omega
/-- what a fit changes of an Edge -/
def Sb (e a j : Int) : Prop := (a = e ∧ j = 8) ∨ a = e + 5 ∨ a = e + 6
theorem Sb_Sk {e : Int} (he : e = 18 ∨ e = 25) : ∀ a j, Sb e a j → Sk a j := fun a j h => by unfold Sb at h; unfold Sk; omega
/-- taking the force of one weight from the last bends -/
theorem pX2_pull_tak (n : Nat) (μ : am_M) (e v w : Int) (he : e = 18 ∨ e = 25) (hl0 : Lay n μ) (hv0 : 0 ≤ v) (hv1 : v ≤ 400) (hw1 : w ≤ 40) : ∀ (l : iso_B) (μ1 : am_M) (gr left x3 : Int) (v7 : am_V), Of (Sb e) μ μ1 → Bx μ1 e l 0 → μ1 e 8 = (l.length : Int) → l.length ≤ 24 → (∀ q ∈ l, (0 ≤ q.1 ∧ q.1 ≤ 400) ∧ 0 < q.2 ∧ q.2 ≤ 40) → 0 ≤ left → left ≤ w → -(400 * (w - left)) ≤ gr → gr ≤ 400 * (w - left) → AW none 31 109 [(2, e), (0, v), (0, w), (0, x3), (0, gr), (0, left), (0, (l.length : Int) - 1), v7] [] n μ1 (PI n (fun x μ' => x = gr + (iso_tak v left l).1 ∧ Of (Sb e) μ μ' ∧ Bx μ' e (iso_tak v left l).2 0 ∧ μ' e 8 = ((iso_tak v left l).2.length : Int))) := by
  intro l
  induction l with
  | nil =>
    intro μ1 gr left x3 v7 hO hB hn hlen hq hl0' hl1 hg0 hg1
    refine aw_iload (q := 111) mX2_pull dX2_pull_109 rfl rfl ?_
    refine aw_if_lt (tgt := 191) (q := 114) mX2_pull dX2_pull_111 rfl (by decide) (fun c_111 => ?_) (fun c_111 => ?_)
    · refine aw_iload (q := 193) mX2_pull dX2_pull_191 rfl rfl ?_
      refine aw_iret mX2_pull dX2_pull_193 ?_
      refine ⟨_, rfl, rfl, ?_, hO, ?_, ?_⟩
      · simp [iso_tak]
      · simp [iso_tak, Bx]
      · rw [hn]; simp [iso_tak]
    · exact absurd c_111 (by simp)
  | cons q r ih =>
    intro μ1 gr left x3 v7 hO hB hn hlen hq hl0' hl1 hg0 hg1
    have hl : Lay n μ1 := hl0.ofS hO (Sb_Sk he)
    obtain ⟨hb1, hb2, hb3⟩ := hB
    rw [show (0 : Int) + (r.length : Int) = (r.length : Int) by omega] at hb1 hb2
    obtain ⟨q1, q2, q3⟩ := hq q List.mem_cons_self
    simp only [List.length_cons] at hn hlen
    have hi : ((q :: r).length : Int) - 1 = (r.length : Int) := by simp
    rw [hi]
    refine aw_iload (q := 111) mX2_pull dX2_pull_109 rfl rfl ?_
    refine aw_if_lt (tgt := 191) (q := 114) mX2_pull dX2_pull_111 rfl (by decide) (fun c_111 => ?_) (fun c_111 => ?_)
    · exact absurd c_111 (by omega)
    · refine aw_iload (q := 116) mX2_pull dX2_pull_114 rfl rfl ?_
      refine aw_if_le (tgt := 191) (q := 119) mX2_pull dX2_pull_116 rfl (by decide) (fun c_116 => ?_) (fun c_116 => ?_)
      · refine aw_iload (q := 193) mX2_pull dX2_pull_191 rfl rfl ?_
        refine aw_iret mX2_pull dX2_pull_193 ?_
        have e0 : iso_tak v left (q :: r) = (0, q :: r) := by rw [iso_tak, if_pos c_116]
        rw [e0]
        refine ⟨_, rfl, rfl, by simp, hO, ⟨?_, ?_, hb3⟩, by rw [hn]; simp⟩
        · rw [show (0 : Int) + (r.length : Int) = (r.length : Int) by omega]; exact hb1
        · rw [show (0 : Int) + (r.length : Int) = (r.length : Int) by omega]; exact hb2
      · by_cases hc : left < q.2
        · have e0 : iso_tak v left (q :: r) = (left * (q.1 - v), (q.1, q.2 - left) :: r) := by rw [iso_tak, if_neg c_116, if_pos hc]
          have hm := mul_bd (t := left) (d := q.1 - v) (by omega) (by omega) (by omega)
          have emin : min left q.2 = left := by omega
          refine aw_iload (q := 121) mX2_pull dX2_pull_119 rfl rfl ?_
          refine aw_aload_n (q := 122) mX2_pull dX2_pull_121 rfl rfl ?_
          refine aw_get (t := 2) (ji := 7) (q := 125) mX2_pull dX2_pull_122 rfl f2_30 rfl (kdE0 he) rfl (lyE7 hl he) ?_
          refine aw_iload (q := 127) mX2_pull dX2_pull_125 rfl rfl ?_
          refine aw_iald (q := 128) mX2_pull dX2_pull_127 rfl (kdE6 he) (by omega) (by omega) hb2 ?_
          refine aw_m2 (Or.inr (Or.inl ⟨rfl, rfl, rfl⟩)) (q := 131) mX2_pull dX2_pull_128 rfl mt2_93 (Nat.le_of_ble_eq_true rfl) (by decide) (by decide) ?_
          rw [emin]
          refine aw_istore (q := 133) mX2_pull dX2_pull_131 rfl (by decide) rfl ?_
          refine aw_iload (q := 135) mX2_pull dX2_pull_133 rfl rfl ?_
          refine aw_iload (q := 137) mX2_pull dX2_pull_135 rfl rfl ?_
          refine aw_aload_n (q := 138) mX2_pull dX2_pull_137 rfl rfl ?_
          refine aw_get (t := 2) (ji := 6) (q := 141) mX2_pull dX2_pull_138 rfl f2_27 rfl (kdE0 he) rfl (lyE6 hl he) ?_
          refine aw_iload (q := 143) mX2_pull dX2_pull_141 rfl rfl ?_
          refine aw_iald (q := 144) mX2_pull dX2_pull_143 rfl (kdE5 he) (by omega) (by omega) hb1 ?_
          refine aw_iload_n (q := 145) mX2_pull dX2_pull_144 rfl rfl ?_
          refine aw_isub (q := 146) mX2_pull dX2_pull_145 rfl (by omega) (by omega) ?_
          refine aw_imul (q := 147) mX2_pull dX2_pull_146 rfl (by omega) (by omega) ?_
          refine aw_iadd (q := 148) mX2_pull dX2_pull_147 rfl (by omega) (by omega) ?_
          refine aw_istore (q := 150) mX2_pull dX2_pull_148 rfl (by decide) rfl ?_
          refine aw_aload_n (q := 151) mX2_pull dX2_pull_150 rfl rfl ?_
          refine aw_get (t := 2) (ji := 7) (q := 154) mX2_pull dX2_pull_151 rfl f2_30 rfl (kdE0 he) rfl (lyE7 hl he) ?_
          refine aw_iload (q := 156) mX2_pull dX2_pull_154 rfl rfl ?_
          refine aw_dup2 (q := 157) mX2_pull dX2_pull_156 rfl ?_
          refine aw_iald (q := 158) mX2_pull dX2_pull_157 rfl (kdE6 he) (by omega) (by omega) hb2 ?_
          refine aw_iload (q := 160) mX2_pull dX2_pull_158 rfl rfl ?_
          refine aw_isub (q := 161) mX2_pull dX2_pull_160 rfl (by omega) (by omega) ?_
          refine aw_iast (q := 162) mX2_pull dX2_pull_161 rfl (kdE6 he) (by omega) (by omega) (fun μ_161 e_161 => ?_)
          have hl : Lay n μ_161 := by rw [e_161]; exact laE6 hl he
          refine aw_iload (q := 164) mX2_pull dX2_pull_162 rfl rfl ?_
          refine aw_iload (q := 166) mX2_pull dX2_pull_164 rfl rfl ?_
          refine aw_isub (q := 167) mX2_pull dX2_pull_166 rfl (by omega) (by omega) ?_
          refine aw_istore (q := 169) mX2_pull dX2_pull_167 rfl (by decide) rfl ?_
          refine aw_aload_n (q := 170) mX2_pull dX2_pull_169 rfl rfl ?_
          refine aw_get (t := 2) (ji := 7) (q := 173) mX2_pull dX2_pull_170 rfl f2_30 rfl (kdE0 he) rfl (lyE7 hl he) ?_
          refine aw_iload (q := 175) mX2_pull dX2_pull_173 rfl rfl ?_
          refine aw_iald (q := 176) mX2_pull dX2_pull_175 rfl (kdE6 he) (by omega) (by omega) (rd_ss e_161) ?_
          refine aw_if_ne (tgt := 185) (q := 179) mX2_pull dX2_pull_176 rfl (by decide) (fun c_176 => ?_) (fun c_176 => ?_)
          · -- not 0: go on, and end there
            rw [e0]
            have hB2 : Bx μ_161 e ((q.1, q.2 - left) :: r) 0 := by
              refine ⟨?_, ?_, hb3.to (fun j j0 j1 => ?_)⟩
              · rw [show (0 : Int) + (r.length : Int) = (r.length : Int) by omega, e_161, am_sn (Or.inl (by omega))]; exact hb1
              · rw [show (0 : Int) + (r.length : Int) = (r.length : Int) by omega, e_161, am_ss]
              · rw [e_161, am_sn (Or.inl (by omega)), am_sn (Or.inr (by omega))]; exact ⟨rfl, rfl⟩
            have hO2 : Of (Sb e) μ μ_161 := by rw [e_161]; exact hO.set (by unfold Sb; omega)
            have hn2 : μ_161 e 8 = ((((q.1, q.2 - left) :: r : iso_B).length : Nat) : Int) := by rw [e_161, am_sn (Or.inl (by omega)), hn]; simp
            refine aw_iinc (q := 188) mX2_pull dX2_pull_185 rfl rfl (by decide) (by omega) (by omega) rfl ?_
            refine aw_goto (q := 109) mX2_pull dX2_pull_188 (by decide) ?_
            refine aw_iload (q := 111) mX2_pull dX2_pull_109 rfl rfl ?_
            refine aw_if_lt (tgt := 191) (q := 114) mX2_pull dX2_pull_111 rfl (by decide) (fun c_111 => ?_) (fun c_111 => ?_)
            · refine aw_iload (q := 193) mX2_pull dX2_pull_191 rfl rfl ?_
              refine aw_iret mX2_pull dX2_pull_193 ?_
              exact ⟨_, rfl, rfl, rfl, hO2, hB2, hn2⟩
            · refine aw_iload (q := 116) mX2_pull dX2_pull_114 rfl rfl ?_
              refine aw_if_le (tgt := 191) (q := 119) mX2_pull dX2_pull_116 rfl (by decide) (fun c_116 => ?_) (fun c_116 => ?_)
              · refine aw_iload (q := 193) mX2_pull dX2_pull_191 rfl rfl ?_
                refine aw_iret mX2_pull dX2_pull_193 ?_
                exact ⟨_, rfl, rfl, rfl, hO2, hB2, hn2⟩
              · exact absurd c_116 (by omega)
          · exact absurd c_176 (by omega)
        · have e0 : iso_tak v left (q :: r) = (q.2 * (q.1 - v) + (iso_tak v (left - q.2) r).1, (iso_tak v (left - q.2) r).2) := by rw [iso_tak, if_neg c_116, if_neg hc]
          have hm := mul_bd (t := q.2) (d := q.1 - v) (by omega) (by omega) (by omega)
          have emin : min left q.2 = q.2 := by omega
          refine aw_iload (q := 121) mX2_pull dX2_pull_119 rfl rfl ?_
          refine aw_aload_n (q := 122) mX2_pull dX2_pull_121 rfl rfl ?_
          refine aw_get (t := 2) (ji := 7) (q := 125) mX2_pull dX2_pull_122 rfl f2_30 rfl (kdE0 he) rfl (lyE7 hl he) ?_
          refine aw_iload (q := 127) mX2_pull dX2_pull_125 rfl rfl ?_
          refine aw_iald (q := 128) mX2_pull dX2_pull_127 rfl (kdE6 he) (by omega) (by omega) hb2 ?_
          refine aw_m2 (Or.inr (Or.inl ⟨rfl, rfl, rfl⟩)) (q := 131) mX2_pull dX2_pull_128 rfl mt2_93 (Nat.le_of_ble_eq_true rfl) (by decide) (by decide) ?_
          rw [emin]
          refine aw_istore (q := 133) mX2_pull dX2_pull_131 rfl (by decide) rfl ?_
          refine aw_iload (q := 135) mX2_pull dX2_pull_133 rfl rfl ?_
          refine aw_iload (q := 137) mX2_pull dX2_pull_135 rfl rfl ?_
          refine aw_aload_n (q := 138) mX2_pull dX2_pull_137 rfl rfl ?_
          refine aw_get (t := 2) (ji := 6) (q := 141) mX2_pull dX2_pull_138 rfl f2_27 rfl (kdE0 he) rfl (lyE6 hl he) ?_
          refine aw_iload (q := 143) mX2_pull dX2_pull_141 rfl rfl ?_
          refine aw_iald (q := 144) mX2_pull dX2_pull_143 rfl (kdE5 he) (by omega) (by omega) hb1 ?_
          refine aw_iload_n (q := 145) mX2_pull dX2_pull_144 rfl rfl ?_
          refine aw_isub (q := 146) mX2_pull dX2_pull_145 rfl (by omega) (by omega) ?_
          refine aw_imul (q := 147) mX2_pull dX2_pull_146 rfl (by omega) (by omega) ?_
          refine aw_iadd (q := 148) mX2_pull dX2_pull_147 rfl (by omega) (by omega) ?_
          refine aw_istore (q := 150) mX2_pull dX2_pull_148 rfl (by decide) rfl ?_
          refine aw_aload_n (q := 151) mX2_pull dX2_pull_150 rfl rfl ?_
          refine aw_get (t := 2) (ji := 7) (q := 154) mX2_pull dX2_pull_151 rfl f2_30 rfl (kdE0 he) rfl (lyE7 hl he) ?_
          refine aw_iload (q := 156) mX2_pull dX2_pull_154 rfl rfl ?_
          refine aw_dup2 (q := 157) mX2_pull dX2_pull_156 rfl ?_
          refine aw_iald (q := 158) mX2_pull dX2_pull_157 rfl (kdE6 he) (by omega) (by omega) hb2 ?_
          refine aw_iload (q := 160) mX2_pull dX2_pull_158 rfl rfl ?_
          refine aw_isub (q := 161) mX2_pull dX2_pull_160 rfl (by omega) (by omega) ?_
          refine aw_iast (q := 162) mX2_pull dX2_pull_161 rfl (kdE6 he) (by omega) (by omega) (fun μ_161 e_161 => ?_)
          have hl : Lay n μ_161 := by rw [e_161]; exact laE6 hl he
          refine aw_iload (q := 164) mX2_pull dX2_pull_162 rfl rfl ?_
          refine aw_iload (q := 166) mX2_pull dX2_pull_164 rfl rfl ?_
          refine aw_isub (q := 167) mX2_pull dX2_pull_166 rfl (by omega) (by omega) ?_
          refine aw_istore (q := 169) mX2_pull dX2_pull_167 rfl (by decide) rfl ?_
          refine aw_aload_n (q := 170) mX2_pull dX2_pull_169 rfl rfl ?_
          refine aw_get (t := 2) (ji := 7) (q := 173) mX2_pull dX2_pull_170 rfl f2_30 rfl (kdE0 he) rfl (lyE7 hl he) ?_
          refine aw_iload (q := 175) mX2_pull dX2_pull_173 rfl rfl ?_
          refine aw_iald (q := 176) mX2_pull dX2_pull_175 rfl (kdE6 he) (by omega) (by omega) (rd_ss e_161) ?_
          refine aw_if_ne (tgt := 185) (q := 179) mX2_pull dX2_pull_176 rfl (by decide) (fun c_176 => ?_) (fun c_176 => ?_)
          · exact absurd c_176 (by omega)
          · refine aw_aload_n (q := 180) mX2_pull dX2_pull_179 rfl rfl ?_
            refine aw_iload (q := 182) mX2_pull dX2_pull_180 rfl rfl ?_
            refine aw_put (t := 0) (ji := 8) (q := 185) mX2_pull dX2_pull_182 rfl f2_112 rfl (kdE0 he) rfl (Or.inl rfl) (Or.inl (by decide)) (fun μ_182 e_182 => ?_)
            have hl : Lay n μ_182 := by rw [e_182]; exact lfE8 hl he
            refine aw_iinc (q := 188) mX2_pull dX2_pull_185 rfl rfl (by decide) (by omega) (by omega) rfl ?_
            refine aw_goto (q := 109) mX2_pull dX2_pull_188 (by decide) ?_
            have h9 := ih μ_182 (gr + q.2 * (q.1 - v)) (left - q.2) x3 (0, q.2) (by rw [e_182, e_161]; exact (hO.set (by unfold Sb; omega)).set (by unfold Sb; omega)) (hb3.to (fun j j0 j1 => by rw [e_182, am_sn (Or.inl (by omega)), am_sn (Or.inl (by omega)), e_161, am_sn (Or.inl (by omega)), am_sn (Or.inr (by omega))]; exact ⟨rfl, rfl⟩)) (by rw [e_182, am_ss]) (by omega) (fun p hp => hq p (List.mem_cons_of_mem _ hp)) (by omega) (by omega) (by omega) (by omega)
            rw [e0]
            rw [show (r.length : Int) + -1 = (r.length : Int) - 1 by omega]
            refine h9.mono ?_
            rintro x n' μ' ⟨y, y1, y2, y3, y4⟩
            exact ⟨y, y1, y2, by rw [y3]; omega, y4⟩
theorem iso_ins_app {v f : Int} : ∀ {pre suf : iso_B}, (∀ p ∈ pre, v < p.1) → (∀ p ∈ suf.head?, p.1 ≤ v) → iso_ins v f (pre ++ suf) = pre ++ (v, f) :: suf := by
  intro pre
  induction pre with
  | nil =>
    intro suf _ h
    cases suf with
    | nil => rfl
    | cons q r =>
      have := h q rfl
      show (if v < q.1 then _ else _) = _
      rw [if_neg (by omega)]
      rfl
  | cons p pre ih =>
    intro suf h1 h2
    show (if v < p.1 then p :: iso_ins v f (pre ++ suf) else _) = _
    rw [if_pos (h1 p List.mem_cons_self), ih (fun q hq => h1 q (List.mem_cons_of_mem _ hq)) h2]
    rfl
theorem pX2_pull (n : Nat) (μ : am_M) (e v w : Int) (bs : iso_B) (he : e = 18 ∨ e = 25) (hl0 : Lay n μ) (hB : Bx μ e bs 0) (hn : μ e 8 = (bs.length : Int)) (hlen : bs.length < 24) (hq : ∀ q ∈ bs, (0 ≤ q.1 ∧ q.1 ≤ 400) ∧ 0 < q.2 ∧ q.2 ≤ 40) (hv0 : 0 ≤ v) (hv1 : v ≤ 400) (hw0 : 1 ≤ w) (hw1 : w ≤ 20) : AC 31 [(2, e), (0, v), (0, w)] n μ (PI n (fun x μ' => x = (iso_pull v w bs).1 ∧ Of (Sb e) μ μ' ∧ Bx μ' e (iso_pull v w bs).2 0 ∧ μ' e 8 = ((iso_pull v w bs).2.length : Int))) := by
  -- the bend is put in
  have J : ∀ (pre suf : iso_B) (μ1 : am_M) (v4 v5 v6 v7 : am_V), bs = pre ++ suf → (∀ p ∈ pre, v < p.1) → (∀ p ∈ suf.head?, p.1 ≤ v) → Of (Sb e) μ μ1 → Bx μ1 e pre ((suf.length : Int) + 1) → Bx μ1 e suf 0 → μ1 e 8 = (bs.length : Int) → AW none 31 69 [(2, e), (0, v), (0, w), (0, (suf.length : Int)), v4, v5, v6, v7] [] n μ1 (PI n (fun x μ' => x = (iso_pull v w bs).1 ∧ Of (Sb e) μ μ' ∧ Bx μ' e (iso_pull v w bs).2 0 ∧ μ' e 8 = ((iso_pull v w bs).2.length : Int))) := by
    intro pre suf μ1 v4 v5 v6 v7 hbs hp hs hO hB1 hB2 hn1
    have hl : Lay n μ1 := hl0.ofS hO (Sb_Sk he)
    have hpl : bs.length = pre.length + suf.length := by rw [hbs, List.length_append]
    have e0 : iso_ins v (2 * w) bs = pre ++ (v, 2 * w) :: suf := by rw [hbs]; exact iso_ins_app hp hs
    refine aw_aload_n (q := 70) mX2_pull dX2_pull_69 rfl rfl ?_
    refine aw_get (t := 2) (ji := 6) (q := 73) mX2_pull dX2_pull_70 rfl f2_27 rfl (kdE0 he) rfl (lyE6 hl he) ?_
    refine aw_iload_n (q := 74) mX2_pull dX2_pull_73 rfl rfl ?_
    refine aw_iload_n (q := 75) mX2_pull dX2_pull_74 rfl rfl ?_
    refine aw_iast (q := 76) mX2_pull dX2_pull_75 rfl (kdE5 he) (by omega) (by omega) (fun μ_75 e_75 => ?_)
    have hl : Lay n μ_75 := by rw [e_75]; exact laE5 hl he
    refine aw_aload_n (q := 77) mX2_pull dX2_pull_76 rfl rfl ?_
    refine aw_get (t := 2) (ji := 7) (q := 80) mX2_pull dX2_pull_77 rfl f2_30 rfl (kdE0 he) rfl (lyE7 hl he) ?_
    refine aw_iload_n (q := 81) mX2_pull dX2_pull_80 rfl rfl ?_
    refine aw_iconst (q := 82) mX2_pull dX2_pull_81 rfl rfl ?_
    refine aw_iload_n (q := 83) mX2_pull dX2_pull_82 rfl rfl ?_
    refine aw_imul (q := 84) mX2_pull dX2_pull_83 rfl (by omega) (by omega) ?_
    refine aw_iast (q := 85) mX2_pull dX2_pull_84 rfl (kdE6 he) (by omega) (by omega) (fun μ_84 e_84 => ?_)
    have hl : Lay n μ_84 := by rw [e_84]; exact laE6 hl he
    refine aw_aload_n (q := 86) mX2_pull dX2_pull_85 rfl rfl ?_
    refine aw_dupr (q := 87) mX2_pull dX2_pull_86 rfl ?_
    refine aw_get (t := 0) (ji := 8) (q := 90) mX2_pull dX2_pull_87 rfl f2_112 rfl (kdE0 he) rfl (rd_sn e_84 (Or.inl (by omega)) (rd_sn e_75 (Or.inl (by omega)) hn1)) ?_
    refine aw_iconst (q := 91) mX2_pull dX2_pull_90 rfl rfl ?_
    refine aw_iadd (q := 92) mX2_pull dX2_pull_91 rfl (by omega) (by omega) ?_
    refine aw_put (t := 0) (ji := 8) (q := 95) mX2_pull dX2_pull_92 rfl f2_112 rfl (kdE0 he) rfl (Or.inl rfl) (Or.inl (by decide)) (fun μ_92 e_92 => ?_)
    have hl : Lay n μ_92 := by rw [e_92]; exact lfE8 hl he
    refine aw_iconst (q := 96) mX2_pull dX2_pull_95 rfl rfl ?_
    refine aw_istore (q := 98) mX2_pull dX2_pull_96 rfl (by decide) rfl ?_
    refine aw_iload_n (q := 99) mX2_pull dX2_pull_98 rfl rfl ?_
    refine aw_istore (q := 101) mX2_pull dX2_pull_99 rfl (by decide) rfl ?_
    refine aw_aload_n (q := 102) mX2_pull dX2_pull_101 rfl rfl ?_
    refine aw_get (t := 0) (ji := 8) (q := 105) mX2_pull dX2_pull_102 rfl f2_112 rfl (kdE0 he) rfl (rd_ss e_92) ?_
    refine aw_iconst (q := 106) mX2_pull dX2_pull_105 rfl rfl ?_
    refine aw_isub (q := 107) mX2_pull dX2_pull_106 rfl (by omega) (by omega) ?_
    refine aw_istore (q := 109) mX2_pull dX2_pull_107 rfl (by decide) rfl ?_
    have hO3 : Of (Sb e) μ μ_92 := by rw [e_92, e_84, e_75]; exact ((hO.set (by unfold Sb; omega)).set (by unfold Sb; omega)).set (by unfold Sb; omega)
    have h9 := pX2_pull_tak n μ e v w he hl0 hv0 hv1 (by omega) (pre ++ (v, 2 * w) :: suf) μ_92 0 w (suf.length : Int) v7 hO3 (by
      rw [Bx.app]
      have hB1' : Bx μ1 e pre (0 + (((v, 2 * w) :: suf).length : Int)) := by rw [show (0 : Int) + (((v, 2 * w) :: suf).length : Int) = (suf.length : Int) + 1 by simp]; exact hB1
      refine ⟨hB1'.to (fun j j0 j1 => ?_), ?_, ?_, hB2.to (fun j j0 j1 => ?_)⟩
      · rw [e_92, am_sn (Or.inl (by omega)), am_sn (Or.inl (by omega)), e_84, am_sn (Or.inl (by omega)), am_sn (Or.inr (by simp only [List.length_cons] at j0; omega)), e_75, am_sn (Or.inr (by simp only [List.length_cons] at j0; omega)), am_sn (Or.inl (by omega))]
        exact ⟨rfl, rfl⟩
      · rw [show (0 : Int) + (suf.length : Int) = (suf.length : Int) by omega, e_92, am_sn (Or.inl (by omega)), e_84, am_sn (Or.inl (by omega)), e_75, am_ss]
      · rw [show (0 : Int) + (suf.length : Int) = (suf.length : Int) by omega, e_92, am_sn (Or.inl (by omega)), e_84, am_ss]
      · rw [e_92, am_sn (Or.inl (by omega)), am_sn (Or.inl (by omega)), e_84, am_sn (Or.inl (by omega)), am_sn (Or.inr (by omega)), e_75, am_sn (Or.inr (by omega)), am_sn (Or.inl (by omega))]
        exact ⟨rfl, rfl⟩) (by rw [e_92, am_ss, hpl]; simp; omega) (by simp; omega) (fun q hq' => by
        rcases List.mem_append.mp hq' with h | h
        · exact hq q (by rw [hbs]; exact List.mem_append_left _ h)
        · rcases List.mem_cons.mp h with h | h
          · rw [h]; exact ⟨⟨hv0, hv1⟩, by show 0 < 2 * w; omega, by show 2 * w ≤ 40; omega⟩
          · exact hq q (by rw [hbs]; exact List.mem_append_right _ h)) (by omega) (Int.le_refl w) (by omega) (by omega)
    rw [← e0] at h9
    have e1 : ((iso_ins v (2 * w) bs).length : Int) - 1 = (bs.length : Int) + 1 - 1 := by rw [e0, hpl]; simp; omega
    rw [e1] at h9
    refine h9.mono ?_
    rintro x n' μ' ⟨y, y1, y2, y3, y4⟩
    refine ⟨y, y1, y2, ?_, y4⟩
    rw [y3]
    show 0 + (iso_pull v w bs).1 = _
    omega
  have F : ∀ (suf pre : iso_B) (μ1 : am_M) (v4 v5 v6 v7 : am_V), bs = pre ++ suf → (∀ p ∈ pre, v < p.1) → Of (Sb e) μ μ1 → Bx μ1 e pre ((suf.length : Int) + 1) → Bx μ1 e suf 0 → μ1 e 8 = (bs.length : Int) → AW none 31 19 [(2, e), (0, v), (0, w), (0, (suf.length : Int)), v4, v5, v6, v7] [] n μ1 (PI n (fun x μ' => x = (iso_pull v w bs).1 ∧ Of (Sb e) μ μ' ∧ Bx μ' e (iso_pull v w bs).2 0 ∧ μ' e 8 = ((iso_pull v w bs).2.length : Int))) := by
    intro suf
    induction suf with
    | nil =>
      intro pre μ1 v4 v5 v6 v7 hbs hp hO hB1 hB2 hn1
      refine aw_iload_n (q := 20) mX2_pull dX2_pull_19 rfl rfl ?_
      refine aw_if_le (tgt := 69) (q := 23) mX2_pull dX2_pull_20 rfl (by decide) (fun c_20 => ?_) (fun c_20 => ?_)
      · exact J pre [] μ1 _ _ _ _ hbs hp (fun p h => by cases h) hO hB1 hB2 hn1
      · exact absurd c_20 (by simp)
    | cons q r ih =>
      intro pre μ1 v4 v5 v6 v7 hbs hp hO hB1 hB2 hn1
      have hl : Lay n μ1 := hl0.ofS hO (Sb_Sk he)
      have hpl : bs.length = pre.length + r.length + 1 := by rw [hbs, List.length_append, List.length_cons]; omega
      obtain ⟨b1, b2, b3⟩ := id hB2
      rw [show (0 : Int) + (r.length : Int) = (r.length : Int) by omega] at b1 b2
      have ei : ((q :: r).length : Int) - 1 = (r.length : Int) := by simp
      have ei2 : ((q :: r).length : Int) = (r.length : Int) + 1 := by simp
      have b1' : μ1 (e + 5) (((q :: r).length : Int) - 1) = q.1 := by rw [ei]; exact b1
      have b2' : μ1 (e + 6) (((q :: r).length : Int) - 1) = q.2 := by rw [ei]; exact b2
      refine aw_iload_n (q := 20) mX2_pull dX2_pull_19 rfl rfl ?_
      refine aw_if_le (tgt := 69) (q := 23) mX2_pull dX2_pull_20 rfl (by decide) (fun c_20 => ?_) (fun c_20 => ?_)
      · exact absurd c_20 (by omega)
      · refine aw_aload_n (q := 24) mX2_pull dX2_pull_23 rfl rfl ?_
        refine aw_get (t := 2) (ji := 6) (q := 27) mX2_pull dX2_pull_24 rfl f2_27 rfl (kdE0 he) rfl (lyE6 hl he) ?_
        refine aw_iload_n (q := 28) mX2_pull dX2_pull_27 rfl rfl ?_
        refine aw_iconst (q := 29) mX2_pull dX2_pull_28 rfl rfl ?_
        refine aw_isub (q := 30) mX2_pull dX2_pull_29 rfl (by omega) (by omega) ?_
        refine aw_iald (q := 31) mX2_pull dX2_pull_30 rfl (kdE5 he) (by omega) (by omega) b1' ?_
        refine aw_iload_n (q := 32) mX2_pull dX2_pull_31 rfl rfl ?_
        refine aw_icmp_le (tgt := 69) (q := 35) mX2_pull dX2_pull_32 rfl (by decide) (fun c_32 => ?_) (fun c_32 => ?_)
        · exact J pre (q :: r) μ1 _ _ _ _ hbs hp (fun p h => by cases h; omega) hO hB1 hB2 hn1
        · refine aw_aload_n (q := 36) mX2_pull dX2_pull_35 rfl rfl ?_
          refine aw_get (t := 2) (ji := 6) (q := 39) mX2_pull dX2_pull_36 rfl f2_27 rfl (kdE0 he) rfl (lyE6 hl he) ?_
          refine aw_iload_n (q := 40) mX2_pull dX2_pull_39 rfl rfl ?_
          refine aw_aload_n (q := 41) mX2_pull dX2_pull_40 rfl rfl ?_
          refine aw_get (t := 2) (ji := 6) (q := 44) mX2_pull dX2_pull_41 rfl f2_27 rfl (kdE0 he) rfl (lyE6 hl he) ?_
          refine aw_iload_n (q := 45) mX2_pull dX2_pull_44 rfl rfl ?_
          refine aw_iconst (q := 46) mX2_pull dX2_pull_45 rfl rfl ?_
          refine aw_isub (q := 47) mX2_pull dX2_pull_46 rfl (by omega) (by omega) ?_
          refine aw_iald (q := 48) mX2_pull dX2_pull_47 rfl (kdE5 he) (by omega) (by omega) b1' ?_
          refine aw_iast (q := 49) mX2_pull dX2_pull_48 rfl (kdE5 he) (by omega) (by omega) (fun μ_48 e_48 => ?_)
          have hl : Lay n μ_48 := by rw [e_48]; exact laE5 hl he
          refine aw_aload_n (q := 50) mX2_pull dX2_pull_49 rfl rfl ?_
          refine aw_get (t := 2) (ji := 7) (q := 53) mX2_pull dX2_pull_50 rfl f2_30 rfl (kdE0 he) rfl (lyE7 hl he) ?_
          refine aw_iload_n (q := 54) mX2_pull dX2_pull_53 rfl rfl ?_
          refine aw_aload_n (q := 55) mX2_pull dX2_pull_54 rfl rfl ?_
          refine aw_get (t := 2) (ji := 7) (q := 58) mX2_pull dX2_pull_55 rfl f2_30 rfl (kdE0 he) rfl (lyE7 hl he) ?_
          refine aw_iload_n (q := 59) mX2_pull dX2_pull_58 rfl rfl ?_
          refine aw_iconst (q := 60) mX2_pull dX2_pull_59 rfl rfl ?_
          refine aw_isub (q := 61) mX2_pull dX2_pull_60 rfl (by omega) (by omega) ?_
          refine aw_iald (q := 62) mX2_pull dX2_pull_61 rfl (kdE6 he) (by omega) (by omega) (rd_sn e_48 (Or.inl (by omega)) b2') ?_
          refine aw_iast (q := 63) mX2_pull dX2_pull_62 rfl (kdE6 he) (by omega) (by omega) (fun μ_62 e_62 => ?_)
          have hl : Lay n μ_62 := by rw [e_62]; exact laE6 hl he
          refine aw_iinc (q := 66) mX2_pull dX2_pull_63 rfl rfl (by decide) (by omega) (by omega) rfl ?_
          refine aw_goto (q := 19) mX2_pull dX2_pull_66 (by decide) ?_
          have h9 := ih (pre ++ [q]) μ_62 v4 v5 v6 v7 (by rw [hbs]; simp) (fun p h => by
            rcases List.mem_append.mp h with h | h
            · exact hp p h
            · simp at h; rw [h]; omega) (by rw [e_62, e_48]; exact (hO.set (by unfold Sb; omega)).set (by unfold Sb; omega)) (by
            rw [Bx.app]
            refine ⟨?_, ?_, ?_, trivial⟩
            · refine Bx.to (fun j j0 j1 => ?_) (show Bx μ1 e pre ((r.length : Int) + 1 + (([q] : iso_B).length : Int)) by rw [show (r.length : Int) + 1 + (([q] : iso_B).length : Int) = ((q :: r).length : Int) + 1 by simp]; exact hB1)
              simp only [List.length_cons, List.length_nil] at j0
              rw [e_62, am_sn (Or.inl (by omega)), am_sn (Or.inr (by omega)), e_48, am_sn (Or.inr (by omega)), am_sn (Or.inl (by omega))]
              exact ⟨rfl, rfl⟩
            · show μ_62 (e + 5) ((r.length : Int) + 1 + 0) = q.1
              rw [show (r.length : Int) + 1 + 0 = ((q :: r).length : Int) by simp, e_62, am_sn (Or.inl (by omega)), e_48, am_ss]
            · show μ_62 (e + 6) ((r.length : Int) + 1 + 0) = q.2
              rw [show (r.length : Int) + 1 + 0 = ((q :: r).length : Int) by simp, e_62, am_ss]) (b3.to (fun j j0 j1 => by rw [e_62, am_sn (Or.inl (by omega)), am_sn (Or.inr (by omega)), e_48, am_sn (Or.inr (by omega)), am_sn (Or.inl (by omega))]; exact ⟨rfl, rfl⟩)) (by rw [e_62, am_sn (Or.inl (by omega)), e_48, am_sn (Or.inl (by omega))]; exact hn1)
          rw [show ((q :: r).length : Int) + -1 = (r.length : Int) by omega]
          exact h9
  have hl := hl0
  refine AC.of rfl ?_
  refine aw_aload_n (q := 1) mX2_pull dX2_pull_0 rfl rfl ?_
  refine aw_get (t := 0) (ji := 8) (q := 4) mX2_pull dX2_pull_1 rfl f2_112 rfl (kdE0 he) rfl hn ?_
  refine aw_aload_n (q := 5) mX2_pull dX2_pull_4 rfl rfl ?_
  refine aw_get (t := 2) (ji := 6) (q := 8) mX2_pull dX2_pull_5 rfl f2_27 rfl (kdE0 he) rfl (lyE6 hl he) ?_
  refine aw_alen (zi := 24) (q := 9) mX2_pull dX2_pull_8 rfl (kdE5 he) (by decide) rfl ?_
  refine aw_icmp_lt (tgt := 14) (q := 12) mX2_pull dX2_pull_9 rfl (by decide) (fun c_9 => ?_) (fun c_9 => ?_)
  · refine aw_aload_n (q := 15) mX2_pull dX2_pull_14 rfl rfl ?_
    refine aw_get (t := 0) (ji := 8) (q := 18) mX2_pull dX2_pull_15 rfl f2_112 rfl (kdE0 he) rfl hn ?_
    refine aw_istore_n (q := 19) mX2_pull dX2_pull_18 rfl (by decide) rfl ?_
    exact F bs [] μ _ _ _ _ rfl (fun p h => by simp at h) Of.rf trivial hB hn
  · exact absurd c_9 (by show ¬ ¬ (bs.length : Int) < 24; omega)

/-! PURE: rising levels fitted to wished ones by weighted distance (what the class's Edge does), and that it is least. Rows are reversed: the last one first. An item: (fixed 1 or 0, wished level, weight, ceiling). -/
abbrev iso_B : Type := List (Int × Int)
abbrev iso_I : Type := Int × Int × Int × Int
/-- what a curve of bends (position, force) is worth at x -/
def iso_S : iso_B → Int → Int
  | [], _ => 0
  | q :: r, x => q.2 * (if x < q.1 then q.1 - x else 0) + iso_S r x
def iso_ins (v f : Int) : iso_B → iso_B
  | [] => [(v, f)]
  | q :: r => if v < q.1 then q :: iso_ins v f r else (v, f) :: q :: r
/-- takes a force from the first bends: what that costs against v, and what is left -/
def iso_tak (v : Int) : Int → iso_B → Int × iso_B
  | _, [] => (0, [])
  | w, q :: r => if w ≤ 0 then (0, q :: r) else if w < q.2 then (w * (q.1 - v), (q.1, q.2 - w) :: r) else (q.2 * (q.1 - v) + (iso_tak v (w - q.2) r).1, (iso_tak v (w - q.2) r).2)
def iso_sd : iso_B → Prop
  | [] => True
  | q :: r => 0 < q.2 ∧ (∀ p ∈ r, p.1 ≤ q.1) ∧ iso_sd r
def iso_tot : iso_B → Int
  | [] => 0
  | q :: r => q.2 + iso_tot r
def iso_hd (bs : iso_B) (d : Int) : Int := match bs with
  | [] => d
  | q :: _ => q.1
theorem iso_S_nn {bs : iso_B} (h : iso_sd bs) (x : Int) : 0 ≤ iso_S bs x := by
  induction bs with
  | nil => exact Int.le_refl 0
  | cons q r ih =>
    obtain ⟨h1, h2, h3⟩ := h
    have := ih h3
    unfold iso_S
    split
    · have := Int.mul_nonneg (Int.le_of_lt h1) (show 0 ≤ q.1 - x by omega)
      omega
    · omega
theorem iso_S_anti {bs : iso_B} (h : iso_sd bs) {x y : Int} (hxy : x ≤ y) : iso_S bs y ≤ iso_S bs x := by
  induction bs with
  | nil => exact Int.le_refl 0
  | cons q r ih =>
    obtain ⟨h1, h2, h3⟩ := h
    have := ih h3
    unfold iso_S
    have h4 : q.2 * (if y < q.1 then q.1 - y else 0) ≤ q.2 * (if x < q.1 then q.1 - x else 0) := by
      apply Int.mul_le_mul_of_nonneg_left _ (Int.le_of_lt h1)
      split <;> split <;> omega
    omega
/-- beyond the first bend the curve is 0 -/
theorem iso_S_zero {bs : iso_B} (h : iso_sd bs) {x : Int} (hx : ∀ q ∈ bs, q.1 ≤ x) : iso_S bs x = 0 := by
  induction bs with
  | nil => rfl
  | cons q r ih =>
    obtain ⟨h1, h2, h3⟩ := h
    unfold iso_S
    rw [if_neg (by have := hx q List.mem_cons_self; omega), ih h3 (fun p hp => hx p (List.mem_cons_of_mem _ hp))]
    omega
/-- ahead of the first bend it falls -/
theorem iso_S_strict {q : Int × Int} {r : iso_B} (h : iso_sd (q :: r)) {x y : Int} (hxy : x < y) (hx : x < q.1) : iso_S (q :: r) y < iso_S (q :: r) x := by
  obtain ⟨h1, h2, h3⟩ := h
  have h4 := iso_S_anti h3 (Int.le_of_lt hxy)
  unfold iso_S
  have h5 : q.2 * (if y < q.1 then q.1 - y else 0) < q.2 * (if x < q.1 then q.1 - x else 0) := by
    apply Int.mul_lt_mul_of_pos_left _ h1
    rw [if_pos hx]
    split <;> omega
  omega
theorem iso_ins_mem {v f : Int} {bs : iso_B} {p : Int × Int} (h : p ∈ iso_ins v f bs) : p = (v, f) ∨ p ∈ bs := by
  induction bs with
  | nil => simp [iso_ins] at h; exact Or.inl h
  | cons q r ih =>
    unfold iso_ins at h
    split at h
    · rcases List.mem_cons.mp h with h | h
      · exact Or.inr (h ▸ List.mem_cons_self)
      · rcases ih h with h | h
        · exact Or.inl h
        · exact Or.inr (List.mem_cons_of_mem _ h)
    · rcases List.mem_cons.mp h with h | h
      · exact Or.inl h
      · exact Or.inr h
theorem iso_ins_sd {v f : Int} (hf : 0 < f) {bs : iso_B} (h : iso_sd bs) : iso_sd (iso_ins v f bs) := by
  induction bs with
  | nil => exact ⟨hf, fun p hp => by simp at hp, trivial⟩
  | cons q r ih =>
    obtain ⟨h1, h2, h3⟩ := h
    unfold iso_ins
    split
    · rename_i hv
      refine ⟨h1, fun p hp => ?_, ih h3⟩
      rcases iso_ins_mem hp with rfl | hp
      · exact Int.le_of_lt hv
      · exact h2 p hp
    · rename_i hv
      refine ⟨hf, fun p hp => ?_, h1, h2, h3⟩
      rcases List.mem_cons.mp hp with rfl | hp
      · dsimp only; omega
      · have := h2 p hp; dsimp only; omega
theorem iso_ins_S {v f : Int} {bs : iso_B} (x : Int) : iso_S (iso_ins v f bs) x = iso_S bs x + f * (if x < v then v - x else 0) := by
  induction bs with
  | nil => simp [iso_ins, iso_S]
  | cons q r ih =>
    unfold iso_ins
    split
    · unfold iso_S
      rw [ih]
      omega
    · simp only [iso_S]
      omega
theorem iso_ins_tot {v f : Int} {bs : iso_B} : iso_tot (iso_ins v f bs) = iso_tot bs + f := by
  induction bs with
  | nil => simp [iso_ins, iso_tot]
  | cons q r ih =>
    unfold iso_ins
    split
    · simp only [iso_tot]
      rw [ih]
      omega
    · simp only [iso_tot]
      omega
theorem iso_tot_nn {bs : iso_B} (h : iso_sd bs) : 0 ≤ iso_tot bs := by
  induction bs with
  | nil => exact Int.le_refl 0
  | cons q r ih =>
    obtain ⟨h1, h2, h3⟩ := h
    have := ih h3
    unfold iso_tot
    omega
theorem iso_tak_mem {v : Int} {bs : iso_B} : ∀ {w : Int} {p : Int × Int}, p ∈ (iso_tak v w bs).2 → ∃ p', p' ∈ bs ∧ p.1 = p'.1 := by
  induction bs with
  | nil => intro w p h; simp [iso_tak] at h
  | cons q r ih =>
    intro w p h
    unfold iso_tak at h
    split at h
    · exact ⟨p, h, rfl⟩
    · split at h
      · rcases List.mem_cons.mp h with h | h
        · exact ⟨q, List.mem_cons_self, by rw [h]⟩
        · exact ⟨p, List.mem_cons_of_mem _ h, rfl⟩
      · obtain ⟨p', h1, h2⟩ := ih h
        exact ⟨p', List.mem_cons_of_mem _ h1, h2⟩
theorem iso_tak_sd {v : Int} {bs : iso_B} : ∀ {w : Int}, iso_sd bs → iso_sd (iso_tak v w bs).2 := by
  induction bs with
  | nil => intro w _; simp [iso_tak, iso_sd]
  | cons q r ih =>
    intro w h
    obtain ⟨h1, h2, h3⟩ := h
    unfold iso_tak
    split
    · exact ⟨h1, h2, h3⟩
    · split
      · exact ⟨by dsimp only; omega, h2, h3⟩
      · exact ih h3
theorem iso_tak_left {v : Int} {bs : iso_B} : ∀ {w : Int}, iso_sd bs → 0 ≤ w → w < iso_tot bs → (iso_tak v w bs).2 ≠ [] := by
  induction bs with
  | nil => intro w _ h1 h2; unfold iso_tot at h2; omega
  | cons q r ih =>
    intro w h h0 h1
    have htot : iso_tot (q :: r) = q.2 + iso_tot r := rfl
    unfold iso_tak
    split
    · simp
    · split
      · simp
      · exact ih h.2.2 (by omega) (by omega)
/-- what taking does to the curve: never less than what is left, the price, and the slope; just that up to the first bend that is left -/
theorem iso_tak_S {v : Int} {bs : iso_B} : ∀ {w : Int}, iso_sd bs → 0 ≤ w → w ≤ iso_tot bs → ∀ x : Int, iso_S (iso_tak v w bs).2 x + (iso_tak v w bs).1 + w * (v - x) ≤ iso_S bs x ∧ ((∀ q ∈ (iso_tak v w bs).2.head?, x ≤ q.1) → (w = iso_tot bs → ∀ q ∈ bs, x ≤ q.1) → iso_S (iso_tak v w bs).2 x + (iso_tak v w bs).1 + w * (v - x) = iso_S bs x) := by
  induction bs with
  | nil =>
    intro w _ h1 h2 x
    have : w = 0 := by unfold iso_tot at h2; omega
    subst this
    simp [iso_tak, iso_S]
  | cons q r ih =>
    intro w h hw0 hw x
    obtain ⟨h1, h2, h3⟩ := h
    unfold iso_tak
    by_cases c1 : w ≤ 0
    · rw [if_pos c1]
      have : w = 0 := by omega
      subst this
      simp
    · rw [if_neg c1]
      by_cases c2 : w < q.2
      · rw [if_pos c2]
        dsimp only
        simp only [iso_S]
        by_cases c3 : x < q.1
        · rw [if_pos c3]
          have e : (q.2 - w) * (q.1 - x) + iso_S r x + w * (q.1 - v) + w * (v - x) = q.2 * (q.1 - x) + iso_S r x := by
            simp only [Int.sub_mul, Int.mul_sub]
            omega
          exact ⟨by omega, fun _ _ => e⟩
        · rw [if_neg c3]
          have e : w * (q.1 - v) + w * (v - x) = w * (q.1 - x) := by
            simp only [Int.mul_sub]
            omega
          have e2 : w * (q.1 - x) ≤ 0 := by
            have := Int.mul_nonneg (show 0 ≤ w by omega) (show 0 ≤ x - q.1 by omega)
            simp only [Int.mul_sub] at this ⊢
            omega
          refine ⟨by simp only [Int.mul_zero]; omega, fun hx _ => ?_⟩
          have hx := hx (q.1, q.2 - w) (by simp)
          dsimp only at hx
          have hxe : x = q.1 := by omega
          have e3 : w * (q.1 - x) = 0 := by rw [hxe]; simp
          simp only [Int.mul_zero]
          omega
      · rw [if_neg c2]
        dsimp only
        have htot : iso_tot (q :: r) = q.2 + iso_tot r := rfl
        obtain ⟨ih1, ih2⟩ := ih (w := w - q.2) h3 (by omega) (by omega) x
        simp only [iso_S]
        have e : w * (v - x) = q.2 * (v - x) + (w - q.2) * (v - x) := by
          rw [← Int.add_mul]
          congr 1
          omega
        by_cases c3 : x < q.1
        · rw [if_pos c3]
          have e2 : q.2 * (q.1 - x) = q.2 * (q.1 - v) + q.2 * (v - x) := by
            rw [← Int.mul_add]
            congr 1
            omega
          refine ⟨by omega, fun hx hx2 => ?_⟩
          have := ih2 hx (fun hw2 p hp => hx2 (by omega) p (List.mem_cons_of_mem _ hp))
          omega
        · rw [if_neg c3]
          have e2 : q.2 * (q.1 - v) + q.2 * (v - x) = q.2 * (q.1 - x) := by
            rw [← Int.mul_add]
            congr 1
            omega
          have e3 : q.2 * (q.1 - x) ≤ 0 := by
            have := Int.mul_nonneg (Int.le_of_lt h1) (show 0 ≤ x - q.1 by omega)
            simp only [Int.mul_sub] at this ⊢
            omega
          refine ⟨by simp only [Int.mul_zero]; omega, fun hx hx2 => ?_⟩
          have hxq : x ≤ q.1 := by
            cases hr : (iso_tak v (w - q.2) r).2 with
            | nil =>
              by_cases ht : w - q.2 = iso_tot r
              · exact hx2 (by omega) q List.mem_cons_self
              · exfalso
                have := iso_tak_left (v := v) h3 (show 0 ≤ w - q.2 by omega) (show w - q.2 < iso_tot r by omega)
                exact this hr
            | cons p t =>
              have h5 := hx p (by rw [hr]; rfl)
              obtain ⟨p', h6, h7⟩ := iso_tak_mem (v := v) (w := w - q.2) (bs := r) (p := p) (by rw [hr]; exact List.mem_cons_self)
              have := h2 p' h6
              omega
          have := ih2 hx (fun hw2 p hp => hx2 (by omega) p (List.mem_cons_of_mem _ hp))
          have hxe : x = q.1 := by omega
          have e4 : q.2 * (q.1 - x) = 0 := by rw [hxe]; simp
          simp only [Int.mul_zero]
          omega

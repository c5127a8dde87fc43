/-! PURE: a row of notes on one side: what a setting is, what it costs; the reference's table of least costs. An item: (tall, fixed place or below 0, weight, top of its line). h the page's height, g the gap. -/
abbrev rw_I : Type := Int × Int × Int × Int
def rw_own (it : rw_I) (x : Int) : Int := if 0 ≤ it.2.1 then 0 else it.2.2.1 * iso_ab (x - it.2.2.2)
def rw_fe (h g : Int) : Int → List rw_I → List Int → Prop
  | _, [], [] => True
  | t, it :: r, x :: xs => 0 ≤ it.1 ∧ t ≤ x ∧ x + it.1 ≤ h ∧ (0 ≤ it.2.1 → x = it.2.1) ∧ rw_fe h g (x + it.1 + g) r xs
  | _, _, _ => False
def rw_co : List rw_I → List Int → Int
  | it :: r, x :: xs => rw_own it x + rw_co r xs
  | _, _ => 0
def rw_NV : Int := 1000000000000
/-- the reference's loop over t from 400 down, u places seen -/
def rw_b (h g : Int) (it : rw_I) (af : Int → Int) : Nat → Int
  | 0 => rw_NV
  | u + 1 => if (0 ≤ it.1 ∧ (400 - (u : Int)) + it.1 ≤ h ∧ (it.2.1 < 0 ∨ it.2.1 = 400 - (u : Int))) ∧ af (400 - (u : Int) + it.1 + g) < rw_NV then min (rw_b h g it af u) (af (400 - (u : Int) + it.1 + g) + rw_own it (400 - (u : Int))) else rw_b h g it af u
def rw_D (h g : Int) : List rw_I → Int → Int
  | [], _ => 0
  | it :: r, t => rw_b h g it (fun z => if r.isEmpty then 0 else if 400 < z then rw_NV else rw_D h g r z) (401 - t).toNat
def rw_af (h g : Int) (r : List rw_I) (z : Int) : Int := if r.isEmpty then 0 else if 400 < z then rw_NV else rw_D h g r z
theorem rw_D_cons {h g t : Int} {it : rw_I} {r : List rw_I} : rw_D h g (it :: r) t = rw_b h g it (rw_af h g r) (401 - t).toNat := rfl
def rw_can (h : Int) (it : rw_I) (x : Int) : Prop := 0 ≤ it.1 ∧ x + it.1 ≤ h ∧ (it.2.1 < 0 ∨ it.2.1 = x)
theorem rw_b_succ {h g : Int} {it : rw_I} {af : Int → Int} {u : Nat} : rw_b h g it af (u + 1) ≤ rw_b h g it af u := by
  rw [rw_b]
  split
  · omega
  · exact Int.le_refl _
theorem rw_b_mono {h g : Int} {it : rw_I} {af : Int → Int} {u v : Nat} (huv : u ≤ v) : rw_b h g it af v ≤ rw_b h g it af u := by
  induction huv with
  | refl => exact Int.le_refl _
  | step _ ih => exact Int.le_trans rw_b_succ ih
theorem rw_b_le {h g : Int} {it : rw_I} {af : Int → Int} {x t : Int} (h0 : t ≤ x) (h1 : x ≤ 400) (hc : rw_can h it x) (ha : af (x + it.1 + g) < rw_NV) : rw_b h g it af (401 - t).toNat ≤ af (x + it.1 + g) + rw_own it x := by
  have e : (401 - x).toNat = (400 - x).toNat + 1 := by omega
  have h2 : rw_b h g it af (401 - t).toNat ≤ rw_b h g it af (401 - x).toNat := rw_b_mono (by omega)
  rw [e, rw_b] at h2
  have e2 : (400 : Int) - (((400 - x).toNat : Nat) : Int) = x := by omega
  rw [e2, if_pos ⟨hc, ha⟩] at h2
  omega
theorem rw_b_at {h g : Int} {it : rw_I} {af : Int → Int} {u : Nat} : rw_b h g it af u < rw_NV → u ≤ 401 → ∃ x : Int, 401 - (u : Int) ≤ x ∧ x ≤ 400 ∧ rw_can h it x ∧ af (x + it.1 + g) < rw_NV ∧ rw_b h g it af u = af (x + it.1 + g) + rw_own it x := by
  induction u with
  | zero => intro h _; rw [rw_b] at h; omega
  | succ u ih =>
    intro hb hu
    rw [rw_b] at hb ⊢
    split at hb
    · rename_i hc
      rw [if_pos hc]
      by_cases hm : rw_b h g it af u ≤ af (400 - (u : Int) + it.1 + g) + rw_own it (400 - (u : Int))
      · obtain ⟨x, h1, h2, h3, h4, h5⟩ := ih (by omega) (by omega)
        exact ⟨x, by omega, h2, h3, h4, by omega⟩
      · exact ⟨400 - (u : Int), by omega, by omega, hc.1, hc.2, by omega⟩
    · rename_i hc
      rw [if_neg hc]
      obtain ⟨x, h1, h2, h3, h4, h5⟩ := ih hb (by omega)
      exact ⟨x, by omega, h2, h3, h4, h5⟩
/-- items as they come -/
def rw_ok (it : rw_I) : Prop := it.1 ≤ 600 ∧ it.2.1 ≤ 400 ∧ 1 ≤ it.2.2.1 ∧ it.2.2.1 ≤ 20 ∧ 0 ≤ it.2.2.2 ∧ it.2.2.2 ≤ 400
theorem rw_own_b {it : rw_I} (h : rw_ok it) {x : Int} (h0 : 0 ≤ x) (h1 : x ≤ 400) : 0 ≤ rw_own it x ∧ rw_own it x ≤ 8000 := by
  obtain ⟨-, -, a, b, c, d⟩ := h
  unfold rw_own
  split
  · omega
  · have e0 : 0 ≤ iso_ab (x - it.2.2.2) := by unfold iso_ab; split <;> omega
    have e1 : iso_ab (x - it.2.2.2) ≤ 400 := by unfold iso_ab; split <;> omega
    have := Int.mul_nonneg (show 0 ≤ it.2.2.1 by omega) e0
    have h2 : it.2.2.1 * iso_ab (x - it.2.2.2) ≤ 20 * 400 := Int.mul_le_mul b e1 e0 (by omega)
    omega
theorem rw_D_b {h g : Int} (hg : 0 ≤ g) : ∀ {row : List rw_I} {t : Int}, (∀ it ∈ row, rw_ok it) → 0 ≤ t → t ≤ 401 → rw_D h g row t < rw_NV → 0 ≤ rw_D h g row t ∧ rw_D h g row t ≤ 8000 * (row.length : Int) := by
  intro row
  induction row with
  | nil => intro t _ _ _ _; simp [rw_D]
  | cons it r ih =>
    intro t hok h0 h1 hn
    rw [rw_D_cons] at hn ⊢
    obtain ⟨x, e1, e2, e3, e4, e5⟩ := rw_b_at hn (by omega)
    have ho := rw_own_b (hok it List.mem_cons_self) (x := x) (by omega) e2
    rw [e5]
    have haf : 0 ≤ rw_af h g r (x + it.1 + g) ∧ rw_af h g r (x + it.1 + g) ≤ 8000 * (r.length : Int) := by
      unfold rw_af at e4 ⊢
      cases r with
      | nil => simp
      | cons i2 r2 =>
        simp only [List.isEmpty_cons, Bool.false_eq_true, if_false] at e4 ⊢
        split at e4
        · omega
        · rename_i hz
          rw [if_neg hz]
          have := e3.1
          exact ih (fun i hi => hok i (List.mem_cons_of_mem _ hi)) (by omega) (by omega) e4
    simp only [List.length_cons]
    omega
theorem rw_af_nil {h g z : Int} : rw_af h g [] z = 0 := rfl
theorem rw_af_cons {h g z : Int} {it : rw_I} {r : List rw_I} : rw_af h g (it :: r) z = if 400 < z then rw_NV else rw_D h g (it :: r) z := rfl
/-- a value below NEVER is some setting's cost -/
theorem rw_D_at {h g : Int} (hg : 0 ≤ g) : ∀ {row : List rw_I} {t : Int}, 0 ≤ t → t ≤ 401 → rw_D h g row t < rw_NV → ∃ xs, rw_fe h g t row xs ∧ rw_co row xs = rw_D h g row t := by
  intro row
  induction row with
  | nil => intro t _ _ _; exact ⟨[], trivial, rfl⟩
  | cons it r ih =>
    intro t h0 h1 hn
    rw [rw_D_cons] at hn ⊢
    obtain ⟨x, e1, e2, e3, e4, e5⟩ := rw_b_at hn (by omega)
    obtain ⟨c1, c2, c3⟩ := e3
    have : ∃ xs, rw_fe h g (x + it.1 + g) r xs ∧ rw_co r xs = rw_af h g r (x + it.1 + g) := by
      cases r with
      | nil => exact ⟨[], trivial, rfl⟩
      | cons i2 r2 =>
        rw [rw_af_cons] at e4 ⊢
        split at e4
        · omega
        · rename_i hz
          rw [if_neg hz]
          exact ih (by omega) (by omega) e4
    obtain ⟨xs, f1, f2⟩ := this
    refine ⟨x :: xs, ⟨c1, by omega, c2, fun hf => by omega, f1⟩, ?_⟩
    rw [e5, rw_co, f2]
    omega
/-- no setting costs less, and where there is one the value is below NEVER -/
theorem rw_D_le {h g : Int} (hg : 0 ≤ g) (hh : h ≤ 400) : ∀ {row : List rw_I} {t : Int} {xs : List Int}, (∀ it ∈ row, rw_ok it) → (row.length : Int) ≤ 24 → 0 ≤ t → rw_fe h g t row xs → rw_D h g row t ≤ rw_co row xs ∧ rw_D h g row t < rw_NV := by
  intro row
  induction row with
  | nil =>
    intro t xs _ _ _ hf
    cases xs with
    | nil => exact ⟨Int.le_refl 0, by show (0 : Int) < 1000000000000; decide⟩
    | cons x xs => exact absurd hf id
  | cons it r ih =>
    intro t xs hok hlen h0 hf
    cases xs with
    | nil => exact absurd hf id
    | cons x xs =>
      obtain ⟨f1, f2, f3, f4, f5⟩ := hf
      have hx : x ≤ 400 := by omega
      have hcan : rw_can h it x := ⟨f1, f3, by by_cases z : it.2.1 < 0; exact Or.inl z; exact Or.inr (f4 (by omega)).symm⟩
      simp only [List.length_cons] at hlen
      have hok2 : ∀ i ∈ r, rw_ok i := fun i hi => hok i (List.mem_cons_of_mem _ hi)
      have haf : rw_af h g r (x + it.1 + g) ≤ rw_co r xs ∧ rw_af h g r (x + it.1 + g) < rw_NV := by
        cases r with
        | nil =>
          cases xs with
          | nil => exact ⟨Int.le_refl 0, by show (0 : Int) < 1000000000000; decide⟩
          | cons y ys => exact absurd f5 id
        | cons i2 r2 =>
          cases xs with
          | nil => exact absurd f5 id
          | cons y ys =>
            have f6 := f5
            obtain ⟨g1, g2, g3, -, -⟩ := f5
            rw [rw_af_cons, if_neg (by omega)]
            exact ih hok2 (by omega) (by omega) f6
      have ho := rw_own_b (hok it List.mem_cons_self) (x := x) (by omega) hx
      have hb := rw_b_le (h := h) (g := g) (it := it) (af := rw_af h g r) f2 hx hcan haf.2
      rw [rw_D_cons, rw_co]
      have h8 : rw_af h g r (x + it.1 + g) ≤ 8000 * (r.length : Int) := by
        cases r with
        | nil => simp [rw_af_nil]
        | cons i2 r2 =>
          have h9 := haf.2
          rw [rw_af_cons] at h9 ⊢
          split at h9
          · omega
          · rename_i hz
            rw [if_neg hz]
            exact (rw_D_b hg hok2 (by omega) (by omega) h9).2
      refine ⟨by omega, ?_⟩
      have : rw_NV = 1000000000000 := rfl
      omega
/-- the reference's walk: at each the least place that keeps the least cost -/
def rw_gr (h g : Int) : Int → List rw_I → List Int → Prop
  | _, [], [] => True
  | t, it :: r, x :: xs => (t ≤ x ∧ x ≤ 400 ∧ rw_can h it x ∧ rw_af h g r (x + it.1 + g) < rw_NV ∧ rw_af h g r (x + it.1 + g) + rw_own it x = rw_D h g (it :: r) t) ∧ (∀ y, t ≤ y → y < x → ¬ (rw_can h it y ∧ rw_af h g r (y + it.1 + g) < rw_NV ∧ rw_af h g r (y + it.1 + g) + rw_own it y = rw_D h g (it :: r) t)) ∧ rw_gr h g (x + it.1 + g) r xs
  | _, _, _ => False
/-- a setting of least cost that lies at or above every other one is what that walk finds -/
theorem rw_gr_of {h g : Int} (hg : 0 ≤ g) (hh : h ≤ 400) : ∀ {row : List rw_I} {t : Int} {xs : List Int}, (∀ it ∈ row, rw_ok it) → (row.length : Int) ≤ 24 → 0 ≤ t → rw_fe h g t row xs → rw_co row xs = rw_D h g row t → (∀ ys, rw_fe h g t row ys → rw_co row ys = rw_D h g row t → iso_all xs ys) → rw_gr h g t row xs := by
  intro row
  induction row with
  | nil =>
    intro t xs _ _ _ hf _ _
    cases xs with
    | nil => trivial
    | cons x xs => exact absurd hf id
  | cons it r ih =>
    intro t xs hok hlen h0 hf hco hall
    cases xs with
    | nil => exact absurd hf id
    | cons x xs =>
      have hf0 := hf
      obtain ⟨f1, f2, f3, f4, f5⟩ := hf
      have hx : x ≤ 400 := by omega
      have hcan : rw_can h it x := ⟨f1, f3, by by_cases z : it.2.1 < 0; exact Or.inl z; exact Or.inr (f4 (by omega)).symm⟩
      simp only [List.length_cons] at hlen
      have hok2 : ∀ i ∈ r, rw_ok i := fun i hi => hok i (List.mem_cons_of_mem _ hi)
      have hr := rw_D_le hg hh hok2 (by omega) (show 0 ≤ x + it.1 + g by omega) f5
      have haf : rw_af h g r (x + it.1 + g) = rw_D h g r (x + it.1 + g) := by
        cases r with
        | nil => rfl
        | cons i2 r2 =>
          cases xs with
          | nil => exact absurd f5 id
          | cons y ys =>
            obtain ⟨g1, g2, g3, -, -⟩ := f5
            rw [rw_af_cons, if_neg (by omega)]
      have hb := rw_b_le (h := h) (g := g) (it := it) (af := rw_af h g r) f2 hx hcan (by rw [haf]; exact hr.2)
      rw [← rw_D_cons] at hb
      rw [rw_co] at hco
      have hco2 : rw_co r xs = rw_D h g r (x + it.1 + g) := by omega
      refine ⟨⟨f2, hx, hcan, by rw [haf]; exact hr.2, by omega⟩, fun y hy1 hy2 hy3 => ?_, ?_⟩
      · obtain ⟨y1, y2, y3⟩ := hy3
        have : ∃ ys, rw_fe h g (y + it.1 + g) r ys ∧ rw_co r ys = rw_af h g r (y + it.1 + g) := by
          cases r with
          | nil => exact ⟨[], trivial, rfl⟩
          | cons i2 r2 =>
            rw [rw_af_cons] at y2 ⊢
            split at y2
            · omega
            · rename_i hz
              rw [if_neg hz]
              exact rw_D_at hg (by have := y1.1; omega) (by omega) y2
        obtain ⟨ys, k1, k2⟩ := this
        have := hall (y :: ys) ⟨y1.1, hy1, y1.2.1, fun hz => by have := y1.2.2; omega, k1⟩ (by rw [rw_co]; omega)
        have := this.1
        omega
      · refine ih hok2 (by omega) (by omega) f5 hco2 (fun ys k1 k2 => ?_)
        exact (hall (x :: ys) ⟨f1, f2, f3, f4, k1⟩ (by rw [rw_co]; omega)).2
theorem rw_gr_uniq {h g : Int} : ∀ {row : List rw_I} {t : Int} {xs ys : List Int}, rw_gr h g t row xs → rw_gr h g t row ys → xs = ys := by
  intro row
  induction row with
  | nil =>
    intro t xs ys h1 h2
    cases xs with
    | nil => cases ys with
      | nil => rfl
      | cons y ys => exact absurd h2 id
    | cons x xs => exact absurd h1 id
  | cons it r ih =>
    intro t xs ys h1 h2
    cases xs with
    | nil => exact absurd h1 id
    | cons x xs => cases ys with
      | nil => exact absurd h2 id
      | cons y ys =>
        obtain ⟨a1, a2, a3⟩ := h1
        obtain ⟨b1, b2, b3⟩ := h2
        have e : x = y := by
          rcases Int.lt_or_le x y with c | c
          · exact absurd ⟨a1.2.2.1, a1.2.2.2.1, a1.2.2.2.2⟩ (b2 x a1.1 c)
          · rcases Int.lt_or_le y x with d | d
            · exact absurd ⟨b1.2.2.1, b1.2.2.2.1, b1.2.2.2.2⟩ (a2 y b1.1 d)
            · omega
        subst e
        rw [ih a3 b3]
/-- each as high as it can stand -/
def rw_sd (h g : Int) : Int → List rw_I → Prop
  | _, [] => True
  | t, it :: r => 0 ≤ it.1 ∧ ¬ (0 ≤ it.2.1 ∧ it.2.1 < t) ∧ (if 0 ≤ it.2.1 then it.2.1 else t) + it.1 ≤ h ∧ rw_sd h g ((if 0 ≤ it.2.1 then it.2.1 else t) + it.1 + g) r
theorem rw_sd_mono {h g : Int} : ∀ {row : List rw_I} {t t' : Int}, t' ≤ t → rw_sd h g t row → rw_sd h g t' row := by
  intro row
  induction row with
  | nil => intro t t' _ _; trivial
  | cons it r ih =>
    intro t t' htt hs
    obtain ⟨s1, s2, s3, s4⟩ := hs
    refine ⟨s1, by omega, ?_, ?_⟩
    · split <;> split at s3 <;> omega
    · refine ih ?_ s4
      split <;> omega
theorem rw_sd_of {h g : Int} : ∀ {row : List rw_I} {t : Int} {xs : List Int}, rw_fe h g t row xs → rw_sd h g t row := by
  intro row
  induction row with
  | nil => intro t xs _; trivial
  | cons it r ih =>
    intro t xs hf
    cases xs with
    | nil => exact absurd hf id
    | cons x xs =>
      obtain ⟨f1, f2, f3, f4, f5⟩ := hf
      refine ⟨f1, fun z => by have := f4 z.1; omega, ?_, ?_⟩
      · split
        · rename_i z; have := f4 z; omega
        · omega
      · refine rw_sd_mono ?_ (ih f5)
        split
        · rename_i z; have := f4 z; omega
        · omega
theorem rw_sd_at {h g : Int} : ∀ {row : List rw_I} {t : Int}, rw_sd h g t row → ∃ xs, rw_fe h g t row xs := by
  intro row
  induction row with
  | nil => intro t _; exact ⟨[], trivial⟩
  | cons it r ih =>
    intro t hs
    obtain ⟨s1, s2, s3, s4⟩ := hs
    obtain ⟨xs, hx⟩ := ih s4
    refine ⟨_ :: xs, s1, ?_, s3, fun z => by rw [if_pos z], hx⟩
    split <;> omega

/-! PURE: a row's settings are rising levels: tops less what must stand above them -/
def lk_c (h g : Int) : Int → List rw_I → Int
  | s, [] => h + g - s
  | s, it :: r => if 0 ≤ it.2.1 then it.2.1 - s else lk_c h g (s + it.1 + g) r
def lk_ok (h g : Int) : Int → List rw_I → Prop
  | _, [] => True
  | s, it :: r => lk_ok h g (s + it.1 + g) r ∧ (0 ≤ it.2.1 → it.2.1 - s ≤ lk_c h g (s + it.1 + g) r)
def lk_it (h g s : Int) (it : rw_I) (r : List rw_I) : iso_I := (if 0 ≤ it.2.1 then 1 else 0, it.2.2.2 - s, it.2.2.1, lk_c h g s (it :: r))
def lk_all (h g : Int) : Int → List rw_I → List iso_I → List iso_I
  | _, [], acc => acc
  | s, it :: r, acc => lk_all h g (s + it.1 + g) r (lk_it h g s it r :: acc)
def lk_ys (g : Int) : Int → List rw_I → List Int → List Int → List Int
  | s, it :: r, x :: xs, acc => lk_ys g (s + it.1 + g) r xs ((x - s) :: acc)
  | _, _, _, acc => acc
theorem lk_A {h g : Int} : ∀ {r : List rw_I} {s y : Int} {xs : List Int}, rw_fe h g (s + y) r xs → y ≤ h + g - s → y ≤ lk_c h g s r := by
  intro r
  induction r with
  | nil => intro s y xs _ hy; exact hy
  | cons it r ih =>
    intro s y xs hf hy
    cases xs with
    | nil => exact absurd hf id
    | cons x xs =>
      obtain ⟨f1, f2, f3, f4, f5⟩ := hf
      unfold lk_c
      split
      · rename_i z
        have := f4 z
        omega
      · have e : s + it.1 + g + (x - s) = x + it.1 + g := by omega
        have := ih (s := s + it.1 + g) (y := x - s) (by rw [e]; exact f5) (by omega)
        omega
/-- where there is a setting, the ceilings are in order -/
theorem lk_fe_ok {h g : Int} : ∀ {row : List rw_I} {s y : Int} {xs : List Int}, rw_fe h g (s + y) row xs → lk_ok h g s row := by
  intro row
  induction row with
  | nil => intro s y xs _; trivial
  | cons it r ih =>
    intro s y xs hf
    cases xs with
    | nil => exact absurd hf id
    | cons x xs =>
      obtain ⟨f1, f2, f3, f4, f5⟩ := hf
      have e : s + it.1 + g + (x - s) = x + it.1 + g := by omega
      refine ⟨ih (y := x - s) (by rw [e]; exact f5), fun z => ?_⟩
      have := lk_A (s := s + it.1 + g) (y := x - s) (by rw [e]; exact f5) (by omega)
      have := f4 z
      omega
theorem lk_to {h g : Int} : ∀ {row : List rw_I} {s : Int} {xs : List Int} {acc : List iso_I} {aY : List Int}, rw_fe h g (s + iso_lo aY) row xs → iso_fe acc aY → iso_fe (lk_all h g s row acc) (lk_ys g s row xs aY) ∧ iso_co (lk_all h g s row acc) (lk_ys g s row xs aY) = rw_co row xs + iso_co acc aY := by
  intro row
  induction row with
  | nil =>
    intro s xs acc aY hf ha
    cases xs with
    | nil => exact ⟨ha, by show iso_co acc aY = 0 + _; omega⟩
    | cons x xs => exact absurd hf id
  | cons it r ih =>
    intro s xs acc aY hf ha
    cases xs with
    | nil => exact absurd hf id
    | cons x xs =>
      obtain ⟨f1, f2, f3, f4, f5⟩ := hf
      have e : s + it.1 + g + (x - s) = x + it.1 + g := by omega
      have hA := lk_A (s := s + it.1 + g) (y := x - s) (by rw [e]; exact f5) (by omega)
      have hfe : iso_fe (lk_it h g s it r :: acc) ((x - s) :: aY) := by
        refine ⟨?_, fun z => ?_, by omega, ha⟩
        · show x - s ≤ lk_c h g s (it :: r)
          unfold lk_c
          split
          · rename_i z; have := f4 z; omega
          · exact hA
        · show x - s = lk_c h g s (it :: r)
          have z : (if 0 ≤ it.2.1 then (1 : Int) else 0) = 1 := z
          by_cases hz : 0 ≤ it.2.1
          · unfold lk_c; rw [if_pos hz, f4 hz]
          · rw [if_neg hz] at z; omega
      obtain ⟨h1, h2⟩ := ih (s := s + it.1 + g) (xs := xs) (acc := lk_it h g s it r :: acc) (aY := (x - s) :: aY) (by show rw_fe h g (s + it.1 + g + (x - s)) r xs; rw [e]; exact f5) hfe
      refine ⟨h1, ?_⟩
      show iso_co (lk_all h g (s + it.1 + g) r (lk_it h g s it r :: acc)) (lk_ys g (s + it.1 + g) r xs ((x - s) :: aY)) = _
      rw [h2, rw_co, iso_co]
      have e3 : (if (lk_it h g s it r).1 = 1 then 0 else (lk_it h g s it r).2.2.1 * iso_ab (x - s - (lk_it h g s it r).2.1)) = rw_own it x := by
        unfold rw_own lk_it
        dsimp only
        by_cases hz : 0 ≤ it.2.1
        · rw [if_pos hz, if_pos rfl, if_pos hz]
        · rw [if_neg hz, if_neg (by decide), if_neg hz]
          congr 2
          omega
      rw [e3]
      omega
theorem lk_from {h g : Int} (hg : 0 ≤ g) : ∀ {row : List rw_I} {s : Int} {acc : List iso_I} {ys : List Int}, (∀ it ∈ row, 0 ≤ it.1) → lk_ok h g s row → iso_fe (lk_all h g s row acc) ys → ∃ xs aY, ys = lk_ys g s row xs aY ∧ iso_fe acc aY ∧ rw_fe h g (s + iso_lo aY) row xs := by
  intro row
  induction row with
  | nil => intro s acc ys _ _ hf; exact ⟨[], ys, rfl, hf, trivial⟩
  | cons it r ih =>
    intro s acc ys hok hlk hf
    obtain ⟨k1, k2⟩ := hlk
    obtain ⟨xs, aY, e1, e2, e3⟩ := ih (fun i hi => hok i (List.mem_cons_of_mem _ hi)) k1 hf
    cases aY with
    | nil => exact absurd e2 id
    | cons y aY =>
      obtain ⟨g1, g2, g3, g4⟩ := e2
      have g1 : y ≤ lk_c h g s (it :: r) := g1
      have e3 : rw_fe h g (s + it.1 + g + y) r xs := e3
      have e : y + s + it.1 + g = s + it.1 + g + y := by omega
      have ht := hok it List.mem_cons_self
      have hc : y ≤ lk_c h g (s + it.1 + g) r := by
        unfold lk_c at g1
        split at g1
        · rename_i z; have := k2 z; omega
        · exact g1
      refine ⟨(y + s) :: xs, aY, ?_, g4, ht, by omega, ?_, fun z => ?_, by rw [e]; exact e3⟩
      · rw [e1]
        show _ = lk_ys g (s + it.1 + g) r xs ((y + s - s) :: aY)
        rw [show y + s - s = y by omega]
      · cases r with
        | nil => have hc : y ≤ h + g - (s + it.1 + g) := hc; omega
        | cons i2 r2 =>
          cases xs with
          | nil => exact absurd e3 id
          | cons x2 xs2 =>
            obtain ⟨f1, f2, f3, -, -⟩ := e3
            omega
      · have g2 := g2 (show (if 0 ≤ it.2.1 then (1 : Int) else 0) = 1 by rw [if_pos z])
        have g2 : y = lk_c h g s (it :: r) := g2
        unfold lk_c at g2
        rw [if_pos z] at g2
        omega
theorem lk_wf {h g : Int} : ∀ {row : List rw_I} {s : Int} {acc : List iso_I}, (∀ it ∈ row, 1 ≤ it.2.2.1) → lk_ok h g s row → iso_wf acc → (row ≠ [] → iso_lc acc ≤ lk_c h g s row) → iso_wf (lk_all h g s row acc) := by
  intro row
  induction row with
  | nil => intro s acc _ _ ha _; exact ha
  | cons it r ih =>
    intro s acc hok hlk ha hc
    obtain ⟨k1, k2⟩ := hlk
    refine ih (fun i hi => hok i (List.mem_cons_of_mem _ hi)) k1 ⟨?_, ?_, hc (by simp), ha⟩ (fun _ => ?_)
    · show (if 0 ≤ it.2.1 then (1 : Int) else 0) = 0 ∨ (if 0 ≤ it.2.1 then (1 : Int) else 0) = 1
      by_cases z : 0 ≤ it.2.1
      · right; rw [if_pos z]
      · left; rw [if_neg z]
    · have := hok it List.mem_cons_self
      show 0 < it.2.2.1
      omega
    · have e : lk_c h g s (it :: r) = if 0 ≤ it.2.1 then it.2.1 - s else lk_c h g (s + it.1 + g) r := rfl
      show lk_c h g s (it :: r) ≤ _
      rw [e]
      split
      · rename_i z
        exact k2 z
      · exact Int.le_refl _
/-- the level of the last one -/
def lk_top (l : List iso_I) : Int := match l with
  | [] => 0
  | it :: r => iso_lev it r
theorem lk_top_fl {l : List iso_I} (h : iso_wf l) : (iso_st l).2.2 ≤ lk_top l := by
  cases l with
  | nil => exact Int.le_refl 0
  | cons it r =>
    obtain ⟨w1, w2, w3, w4⟩ := h
    show _ ≤ iso_lev it r
    unfold iso_lev
    by_cases hf : it.1 = 1
    · rw [iso_st_fix hf, if_pos hf]; exact Int.le_refl _
    · rw [if_neg hf, iso_st_non hf]
      have := iso_pull_hd (v := iso_nr (iso_st r).2.2 it) (d := iso_nr (iso_st r).2.2 it) w2 (iso_inv w4).1
      have : (iso_st r).2.2 ≤ iso_nr (iso_st r).2.2 it := by unfold iso_nr; omega
      show (iso_st r).2.2 ≤ iso_hd (iso_pull _ _ _).2 _
      omega
theorem lk_top_0 {l : List iso_I} (h : iso_wf l) : iso_S (iso_st l).2.1 (lk_top l) = 0 := by
  cases l with
  | nil => rfl
  | cons it r =>
    have hi := iso_inv h
    obtain ⟨w1, w2, w3, w4⟩ := h
    refine iso_S_zero hi.1 (fun q hq => ?_)
    show q.1 ≤ iso_lev it r
    unfold iso_lev
    by_cases hf : it.1 = 1
    · rw [if_pos hf]; exact hi.2.1 q hq
    · rw [if_neg hf]
      exact iso_hd_max hi.1 (by rw [iso_st_non hf]; exact iso_pull_ne w2 (iso_inv w4).1) q hq
theorem lk_top_le {l : List iso_I} (h : iso_wf l) {ys : List Int} (hf : iso_fe l ys) (hz : iso_S (iso_st l).2.1 (iso_lo ys) = 0) : ∀ it r, l = it :: r → iso_lev it r ≤ iso_lo ys := by
  intro it r e
  subst e
  cases ys with
  | nil => exact absurd hf id
  | cons y ys =>
    obtain ⟨w1, w2, w3, w4⟩ := h
    show iso_lev it r ≤ y
    unfold iso_lev
    by_cases hx : it.1 = 1
    · rw [if_pos hx]
      have := hf.2.1 hx
      omega
    · rw [if_neg hx]
      rw [iso_st_non hx] at hz ⊢
      have hsd := iso_pull_sd (v := iso_nr (iso_st r).2.2 it) w2 (iso_inv w4).1
      have hz : iso_S (iso_pull (iso_nr (iso_st r).2.2 it) it.2.2.1 (iso_st r).2.1).2 y = 0 := hz
      show iso_hd (iso_pull (iso_nr (iso_st r).2.2 it) it.2.2.1 (iso_st r).2.1).2 _ ≤ y
      cases hP : (iso_pull (iso_nr (iso_st r).2.2 it) it.2.2.1 (iso_st r).2.1).2 with
      | nil => exact absurd hP (iso_pull_ne w2 (iso_inv w4).1)
      | cons q t =>
        rw [hP] at hz hsd
        show q.1 ≤ y
        rcases Int.lt_or_le y q.1 with c | c
        · have h1 := iso_S_strict hsd (show y < y + 1 by omega) c
          have h2 := iso_S_nn hsd (y + 1)
          omega
        · exact c
theorem lk_ys_all {g : Int} : ∀ {row : List rw_I} {s : Int} {xs xs' a a' : List Int}, xs.length = row.length → xs'.length = row.length → iso_all (lk_ys g s row xs a) (lk_ys g s row xs' a') → iso_all xs xs' ∧ iso_all a a' := by
  intro row
  induction row with
  | nil =>
    intro s xs xs' a a' h1 h2 h3
    cases xs with
    | nil => cases xs' with
      | nil => exact ⟨trivial, h3⟩
      | cons x xs => simp at h2
    | cons x xs => simp at h1
  | cons it r ih =>
    intro s xs xs' a a' h1 h2 h3
    cases xs with
    | nil => simp at h1
    | cons x xs => cases xs' with
      | nil => simp at h2
      | cons x' xs' =>
        obtain ⟨k1, k2⟩ := ih (by simpa using h1) (by simpa using h2) h3
        obtain ⟨k3, k4⟩ := k2
        exact ⟨⟨by omega, k1⟩, k4⟩
theorem rw_fe_len {h g : Int} : ∀ {row : List rw_I} {t : Int} {xs : List Int}, rw_fe h g t row xs → xs.length = row.length := by
  intro row
  induction row with
  | nil => intro t xs hf; cases xs with
    | nil => rfl
    | cons x xs => exact absurd hf id
  | cons it r ih => intro t xs hf; cases xs with
    | nil => exact absurd hf id
    | cons x xs => simp [ih hf.2.2.2.2]
/-- THE CLASS'S FIT IS THE REFERENCE'S: cost and places -/
theorem lk_main {h g t : Int} (hg : 0 ≤ g) (hh : h ≤ 400) (ht : 0 ≤ t) {row : List rw_I} (hok : ∀ it ∈ row, rw_ok it) (hta : ∀ it ∈ row, 0 ≤ it.1) (hlen : (row.length : Int) ≤ 24) (hne : row ≠ []) (hlk : lk_ok h g t row) (hc0 : 0 ≤ lk_c h g t row) : (iso_st (lk_all h g t row [])).1 = rw_D h g row t ∧ rw_D h g row t < rw_NV ∧ ∃ xs, rw_gr h g t row xs ∧ lk_ys g t row xs [] = iso_sol (lk_all h g t row []) (lk_top (lk_all h g t row [])) := by
  have hwf : iso_wf (lk_all h g t row []) := lk_wf (fun i hi => (hok i hi).2.2.1) hlk trivial (fun _ => hc0)
  obtain ⟨a1, a2, a3⟩ := iso_AT hwf (lk_top_fl hwf)
  rw [lk_top_0 hwf] at a2
  obtain ⟨xs, aY, e1, e2, e3⟩ := lk_from hg hta hlk a1
  cases aY with
  | cons y aY => exact absurd e2 id
  | nil =>
    have e3 : rw_fe h g (t + 0) row xs := e3
    rw [show t + 0 = t by omega] at e3
    obtain ⟨d1, d2⟩ := rw_D_le hg hh hok hlen ht e3
    have hto := lk_to (s := t) (acc := []) (aY := []) (by show rw_fe h g (t + 0) row xs; rw [show t + 0 = t by omega]; exact e3) trivial
    have hco : rw_co row xs = (iso_st (lk_all h g t row [])).1 := by
      have h1 := hto.2
      rw [← e1, a2] at h1
      have h2 : iso_co [] ([] : List Int) = 0 := rfl
      omega
    have hle : ∀ ys, rw_fe h g t row ys → (iso_st (lk_all h g t row [])).1 ≤ rw_co row ys ∧ (rw_co row ys = (iso_st (lk_all h g t row [])).1 → iso_all xs ys) := by
      intro ys hy
      have ht2 := lk_to (s := t) (acc := []) (aY := []) (by show rw_fe h g (t + 0) row ys; rw [show t + 0 = t by omega]; exact hy) trivial
      have hb := iso_LB hwf ht2.1
      have hi := iso_inv hwf
      have hnn := iso_S_nn hi.1 (iso_lo (lk_ys g t row ys []))
      have h2 : iso_co [] ([] : List Int) = 0 := rfl
      have hc2 := ht2.2
      refine ⟨by omega, fun he => ?_⟩
      have hz : iso_S (iso_st (lk_all h g t row [])).2.1 (iso_lo (lk_ys g t row ys [])) = 0 := by omega
      have hL := iso_LEAST (x := lk_top (lk_all h g t row [])) hwf ht2.1 (by omega) (Or.inr (lk_top_le hwf ht2.1 hz))
      rw [e1] at hL
      exact (lk_ys_all (rw_fe_len e3) (rw_fe_len hy) hL).1
    have hD : (iso_st (lk_all h g t row [])).1 = rw_D h g row t := by
      have ht4 : t ≤ 401 := by
        cases row with
        | nil => exact absurd rfl hne
        | cons it r => cases xs with
          | nil => exact absurd e3 id
          | cons x xs => obtain ⟨f1, f2, f3, -, -⟩ := e3; omega
      obtain ⟨ys, y1, y2⟩ := rw_D_at hg ht ht4 d2
      have := (hle ys y1).1
      omega
    refine ⟨hD, d2, xs, ?_, e1.symm⟩
    exact rw_gr_of hg hh hok hlen ht e3 (by omega) (fun ys y1 y2 => (hle ys y1).2 (by omega))
/-- and where the class finds none there is none -/
theorem lk_none {h g t : Int} (hg : 0 ≤ g) {row : List rw_I} (hne : row ≠ []) (ht : 0 ≤ t) (ht4 : t ≤ 401) (hn : ¬ (lk_ok h g t row ∧ 0 ≤ lk_c h g t row)) : ¬ rw_D h g row t < rw_NV := by
  intro hd
  obtain ⟨xs, h1, -⟩ := rw_D_at hg ht ht4 hd
  have e : rw_fe h g (t + 0) row xs := by rw [show t + 0 = t by omega]; exact h1
  refine hn ⟨lk_fe_ok e, lk_A e ?_⟩
  cases row with
  | nil => exact absurd rfl hne
  | cons it r => cases xs with
    | nil => exact absurd h1 id
    | cons x xs => obtain ⟨f1, f2, f3, -, -⟩ := h1; omega

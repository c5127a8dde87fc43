def iso_ab (x : Int) : Int := if 0 ≤ x then x else -x
def iso_pull (v w : Int) (bs : iso_B) : Int × iso_B := iso_tak v w (iso_ins v (2 * w) bs)
theorem iso_hd_tak {v w u d : Int} (hw : 0 < w) {bs : iso_B} : iso_sd bs → ∀ {w' : Int}, w' ≤ w → v ≤ iso_hd (iso_tak u w' (iso_ins v (2 * w) bs)).2 d := by
  induction bs with
  | nil =>
    intro _ w' h
    unfold iso_ins iso_tak
    split
    · exact Int.le_refl v
    · rw [if_pos (by dsimp only; omega)]
      exact Int.le_refl v
  | cons q r ih =>
    intro hs w' h
    obtain ⟨h1, h2, h3⟩ := hs
    unfold iso_ins
    split
    · rename_i hv
      unfold iso_tak
      by_cases c1 : w' ≤ 0
      · rw [if_pos c1]; exact Int.le_of_lt hv
      · rw [if_neg c1]
        by_cases c2 : w' < q.2
        · rw [if_pos c2]; exact Int.le_of_lt hv
        · rw [if_neg c2]
          exact ih h3 (by omega)
    · unfold iso_tak
      split
      · exact Int.le_refl v
      · rw [if_pos (by dsimp only; omega)]
        exact Int.le_refl v
theorem iso_pull_sd {v w : Int} (hw : 0 < w) {bs : iso_B} (h : iso_sd bs) : iso_sd (iso_pull v w bs).2 := iso_tak_sd (iso_ins_sd (by omega) h)
theorem iso_pull_ne {v w : Int} (hw : 0 < w) {bs : iso_B} (h : iso_sd bs) : (iso_pull v w bs).2 ≠ [] := by
  have h0 := iso_tot_nn h
  exact iso_tak_left (iso_ins_sd (by omega) h) (by omega) (by rw [iso_ins_tot]; omega)
theorem iso_pull_hd {v w d : Int} (hw : 0 < w) {bs : iso_B} (h : iso_sd bs) : v ≤ iso_hd (iso_pull v w bs).2 d := iso_hd_tak hw h (Int.le_refl w)
theorem iso_pull_mem {v w : Int} {bs : iso_B} {p : Int × Int} (h : p ∈ (iso_pull v w bs).2) : p.1 = v ∨ ∃ p', p' ∈ bs ∧ p.1 = p'.1 := by
  obtain ⟨p', h1, h2⟩ := iso_tak_mem h
  rcases iso_ins_mem h1 with rfl | h1
  · exact Or.inl h2
  · exact Or.inr ⟨p', h1, h2⟩
theorem iso_ab_2 (w x v : Int) : w * iso_ab (x - v) = 2 * w * (if x < v then v - x else 0) + w * (x - v) := by
  unfold iso_ab
  by_cases h : x < v
  · rw [if_neg (by omega), if_pos h]
    have e : w * -(x - v) = -(w * (x - v)) := Int.mul_neg w _
    have e2 : 2 * w * (v - x) = -(2 * (w * (x - v))) := by
      rw [Int.mul_assoc, ← Int.mul_neg, ← Int.mul_neg]
      congr 2
      omega
    rw [e, e2]
    omega
  · rw [if_pos (by omega), if_neg h]
    omega
theorem iso_pull_S {v w : Int} (hw : 0 < w) {bs : iso_B} (h : iso_sd bs) (x : Int) : iso_S (iso_pull v w bs).2 x + (iso_pull v w bs).1 ≤ iso_S bs x + w * iso_ab (x - v) ∧ (x ≤ iso_hd (iso_pull v w bs).2 x → iso_S (iso_pull v w bs).2 x + (iso_pull v w bs).1 = iso_S bs x + w * iso_ab (x - v)) := by
  have h0 := iso_tot_nn h
  have ht : iso_tot (iso_ins v (2 * w) bs) = iso_tot bs + 2 * w := iso_ins_tot
  obtain ⟨h1, h2⟩ := iso_tak_S (v := v) (w := w) (iso_ins_sd (v := v) (f := 2 * w) (by omega) h) (by omega) (by omega) x
  rw [iso_ins_S] at h1 h2
  rw [iso_ab_2]
  have e : w * (v - x) = -(w * (x - v)) := by
    rw [← Int.mul_neg]
    congr 1
    omega
  unfold iso_pull
  refine ⟨by omega, fun hx => ?_⟩
  have h3 := h2 (fun q hq => by
    cases hl : (iso_tak v w (iso_ins v (2 * w) bs)).2 with
    | nil => rw [hl] at hq; cases hq
    | cons p t =>
      rw [hl] at hq hx
      cases hq
      exact hx) (fun hh => by omega)
  omega
def iso_nr (F : Int) (it : iso_I) : Int := max F (min it.2.2.2 it.2.1)
/-- what stands behind the items: cost, bends, floor -/
def iso_st : List iso_I → Int × iso_B × Int
  | [] => (0, [], 0)
  | it :: r => if it.1 = 1 then ((iso_st r).1, (iso_st r).2.1, it.2.2.2) else ((iso_st r).1 + it.2.2.1 * iso_ab (it.2.1 - iso_nr (iso_st r).2.2 it) + (iso_pull (iso_nr (iso_st r).2.2 it) it.2.2.1 (iso_st r).2.1).1, (iso_pull (iso_nr (iso_st r).2.2 it) it.2.2.1 (iso_st r).2.1).2, (iso_st r).2.2)
def iso_lev (it : iso_I) (r : List iso_I) : Int := if it.1 = 1 then it.2.2.2 else iso_hd (iso_st (it :: r)).2.1 (iso_nr (iso_st r).2.2 it)
def iso_sol : List iso_I → Int → List Int
  | [], _ => []
  | it :: r, x => min x (iso_lev it r) :: iso_sol r (min x (iso_lev it r))
def iso_lo (ys : List Int) : Int := match ys with
  | [] => 0
  | y :: _ => y
def iso_lc (l : List iso_I) : Int := match l with
  | [] => 0
  | it :: _ => it.2.2.2
def iso_fe : List iso_I → List Int → Prop
  | [], [] => True
  | it :: r, y :: ys => y ≤ it.2.2.2 ∧ (it.1 = 1 → y = it.2.2.2) ∧ iso_lo ys ≤ y ∧ iso_fe r ys
  | _, _ => False
def iso_co : List iso_I → List Int → Int
  | it :: r, y :: ys => (if it.1 = 1 then 0 else it.2.2.1 * iso_ab (y - it.2.1)) + iso_co r ys
  | _, _ => 0
def iso_wf : List iso_I → Prop
  | [] => True
  | it :: r => (it.1 = 0 ∨ it.1 = 1) ∧ 0 < it.2.2.1 ∧ iso_lc r ≤ it.2.2.2 ∧ iso_wf r
theorem iso_st_fix {it : iso_I} {r : List iso_I} (h : it.1 = 1) : iso_st (it :: r) = ((iso_st r).1, (iso_st r).2.1, it.2.2.2) := by
  rw [iso_st, if_pos h]
theorem iso_st_non {it : iso_I} {r : List iso_I} (h : it.1 ≠ 1) : iso_st (it :: r) = ((iso_st r).1 + it.2.2.1 * iso_ab (it.2.1 - iso_nr (iso_st r).2.2 it) + (iso_pull (iso_nr (iso_st r).2.2 it) it.2.2.1 (iso_st r).2.1).1, (iso_pull (iso_nr (iso_st r).2.2 it) it.2.2.1 (iso_st r).2.1).2, (iso_st r).2.2) := by
  rw [iso_st, if_neg h]
/-- bends in order, none beyond the ceiling; the floor between 0 and the ceiling -/
theorem iso_inv {l : List iso_I} (h : iso_wf l) : iso_sd (iso_st l).2.1 ∧ (∀ q ∈ (iso_st l).2.1, q.1 ≤ iso_lc l) ∧ 0 ≤ (iso_st l).2.2 ∧ (iso_st l).2.2 ≤ iso_lc l := by
  induction l with
  | nil => exact ⟨trivial, fun q hq => by simp [iso_st] at hq, Int.le_refl 0, Int.le_refl 0⟩
  | cons it r ih =>
    obtain ⟨h1, h2, h3, h4⟩ := h
    obtain ⟨i1, i2, i3, i4⟩ := ih h4
    by_cases hf : it.1 = 1
    · rw [iso_st_fix hf]
      refine ⟨i1, fun q hq => ?_, ?_, Int.le_refl _⟩
      · have := i2 q hq; show q.1 ≤ it.2.2.2; omega
      · show 0 ≤ it.2.2.2; omega
    · rw [iso_st_non hf]
      refine ⟨iso_pull_sd h2 i1, fun q hq => ?_, i3, ?_⟩
      · show q.1 ≤ it.2.2.2
        rcases iso_pull_mem hq with e | ⟨p, hp, e⟩
        · rw [e]; unfold iso_nr; omega
        · have := i2 p hp; omega
      · show (iso_st r).2.2 ≤ it.2.2.2; omega
theorem iso_clamp {F y : Int} {it : iso_I} (h1 : F ≤ y) (h2 : y ≤ it.2.2.2) : iso_ab (y - it.2.1) = iso_ab (y - iso_nr F it) + iso_ab (it.2.1 - iso_nr F it) := by
  unfold iso_ab iso_nr
  split <;> split <;> split <;> omega
theorem iso_floor {l : List iso_I} : ∀ {ys : List Int}, iso_fe l ys → (iso_st l).2.2 ≤ iso_lo ys := by
  induction l with
  | nil =>
    intro ys h
    cases ys with
    | nil => exact Int.le_refl 0
    | cons y ys => exact absurd h id
  | cons it r ih =>
    intro ys h
    cases ys with
    | nil => exact absurd h id
    | cons y ys =>
      obtain ⟨h1, h2, h3, h4⟩ := h
      have := ih h4
      by_cases hf : it.1 = 1
      · rw [iso_st_fix hf]
        show it.2.2.2 ≤ y
        have := h2 hf
        omega
      · rw [iso_st_non hf]
        show (iso_st r).2.2 ≤ y
        omega
/-- NO FIT COSTS LESS -/
theorem iso_LB {l : List iso_I} : ∀ {ys : List Int}, iso_wf l → iso_fe l ys → (iso_st l).1 + iso_S (iso_st l).2.1 (iso_lo ys) ≤ iso_co l ys := by
  induction l with
  | nil =>
    intro ys _ h
    cases ys with
    | nil => exact Int.le_refl 0
    | cons y ys => exact absurd h id
  | cons it r ih =>
    intro ys hw h
    cases ys with
    | nil => exact absurd h id
    | cons y ys =>
      obtain ⟨h1, h2, h3, h4⟩ := h
      obtain ⟨w1, w2, w3, w4⟩ := hw
      have hb := ih w4 h4
      have hi := iso_inv w4
      have ha := iso_S_anti hi.1 h3
      have hF := iso_floor h4
      unfold iso_co
      by_cases hf : it.1 = 1
      · rw [iso_st_fix hf, if_pos hf]
        show (iso_st r).1 + iso_S (iso_st r).2.1 y ≤ _
        omega
      · rw [iso_st_non hf, if_neg hf, iso_clamp (F := (iso_st r).2.2) (by omega) h1, Int.mul_add]
        have hp := (iso_pull_S (v := iso_nr (iso_st r).2.2 it) w2 hi.1 y).1
        dsimp only [iso_lo]
        omega
theorem iso_hd_max {bs : iso_B} (h : iso_sd bs) {d : Int} (hne : bs ≠ []) : ∀ q ∈ bs, q.1 ≤ iso_hd bs d := by
  cases bs with
  | nil => exact absurd rfl hne
  | cons p t =>
    intro q hq
    rcases List.mem_cons.mp hq with rfl | hq
    · exact Int.le_refl _
    · exact h.2.1 q hq
theorem iso_hd_irr {bs : iso_B} (hne : bs ≠ []) (d d' : Int) : iso_hd bs d = iso_hd bs d' := by
  cases bs with
  | nil => exact absurd rfl hne
  | cons p t => rfl
/-- THE BACKWARD WALK MAKES A FIT OF JUST THAT COST -/
theorem iso_AT {l : List iso_I} : ∀ {x : Int}, iso_wf l → (iso_st l).2.2 ≤ x → iso_fe l (iso_sol l x) ∧ iso_co l (iso_sol l x) = (iso_st l).1 + iso_S (iso_st l).2.1 x ∧ iso_lo (iso_sol l x) ≤ x := by
  induction l with
  | nil =>
    intro x _ hx
    exact ⟨trivial, rfl, hx⟩
  | cons it r ih =>
    intro x hw hx
    obtain ⟨w1, w2, w3, w4⟩ := hw
    have hi := iso_inv w4
    have hi2 := iso_inv (l := it :: r) ⟨w1, w2, w3, w4⟩
    obtain ⟨i1, i2, i3, i4⟩ := hi
    by_cases hf : it.1 = 1
    · have hlev : iso_lev it r = it.2.2.2 := by unfold iso_lev; rw [if_pos hf]
      have hx' : it.2.2.2 ≤ x := by rw [iso_st_fix hf] at hx; exact hx
      have hm : min x (iso_lev it r) = it.2.2.2 := by omega
      have hz1 : iso_S (iso_st r).2.1 it.2.2.2 = 0 := iso_S_zero i1 (fun q hq => by have := i2 q hq; omega)
      have hz2 : iso_S (iso_st r).2.1 x = 0 := iso_S_zero i1 (fun q hq => by have := i2 q hq; omega)
      obtain ⟨a1, a2, a3⟩ := ih (x := it.2.2.2) w4 (by omega)
      unfold iso_sol
      rw [hm]
      refine ⟨⟨Int.le_refl _, fun _ => rfl, a3, a1⟩, ?_, hx'⟩
      unfold iso_co
      rw [if_pos hf, iso_st_fix hf, a2]
      show 0 + _ = (iso_st r).1 + iso_S (iso_st r).2.1 x
      omega
    · have hst := iso_st_non (r := r) hf
      have hx' : (iso_st r).2.2 ≤ x := by rw [hst] at hx; exact hx
      have hne := iso_pull_ne (v := iso_nr (iso_st r).2.2 it) w2 i1
      have hsd := iso_pull_sd (v := iso_nr (iso_st r).2.2 it) w2 i1
      obtain ⟨lv, hlv⟩ : ∃ z, z = iso_lev it r := ⟨_, rfl⟩
      have hlv2 : lv = iso_hd (iso_pull (iso_nr (iso_st r).2.2 it) it.2.2.1 (iso_st r).2.1).2 (iso_nr (iso_st r).2.2 it) := by
        rw [hlv]; unfold iso_lev; rw [if_neg hf, hst]
      have hge : iso_nr (iso_st r).2.2 it ≤ lv := by rw [hlv2]; exact iso_pull_hd w2 i1
      have hnr : (iso_st r).2.2 ≤ iso_nr (iso_st r).2.2 it := by unfold iso_nr; omega
      have hle : lv ≤ it.2.2.2 := by
        rw [hst] at hi2
        have h5 := hi2.2.1
        cases hP : (iso_pull (iso_nr (iso_st r).2.2 it) it.2.2.1 (iso_st r).2.1).2 with
        | nil => exact absurd hP hne
        | cons q t =>
          rw [hP] at hlv2
          have := h5 q (by show q ∈ (iso_pull _ _ _).2; rw [hP]; exact List.mem_cons_self)
          have e : lv = q.1 := hlv2
          have e2 : q.1 ≤ it.2.2.2 := this
          omega
      obtain ⟨y, hy⟩ : ∃ z, z = min x lv := ⟨_, rfl⟩
      obtain ⟨a1, a2, a3⟩ := ih (x := y) w4 (by omega)
      unfold iso_sol
      rw [← hlv, ← hy]
      refine ⟨⟨by omega, fun h => absurd h hf, a3, a1⟩, ?_, by show y ≤ x; omega⟩
      unfold iso_co
      rw [if_neg hf, hst, a2, iso_clamp (F := (iso_st r).2.2) (it := it) (y := y) (by omega) (by omega), Int.mul_add]
      have hp := (iso_pull_S (v := iso_nr (iso_st r).2.2 it) w2 i1 y).2 (by rw [iso_hd_irr hne y (iso_nr (iso_st r).2.2 it), ← hlv2]; omega)
      have hxy : iso_S (iso_pull (iso_nr (iso_st r).2.2 it) it.2.2.1 (iso_st r).2.1).2 x = iso_S (iso_pull (iso_nr (iso_st r).2.2 it) it.2.2.1 (iso_st r).2.1).2 y := by
        by_cases hc : x ≤ lv
        · have : y = x := by omega
          rw [this]
        · have : y = lv := by omega
          rw [this, iso_S_zero hsd (fun q hq => by have := iso_hd_max hsd (d := iso_nr (iso_st r).2.2 it) hne q hq; rw [← hlv2] at this; omega), iso_S_zero hsd (fun q hq => by have := iso_hd_max hsd (d := iso_nr (iso_st r).2.2 it) hne q hq; rw [← hlv2] at this; exact this)]
      show _ = _ + iso_S _ x
      rw [hxy]
      omega
def iso_all : List Int → List Int → Prop
  | [], [] => True
  | x :: xs, y :: ys => x ≤ y ∧ iso_all xs ys
  | _, _ => False
/-- EVERY FIT OF THE LEAST COST LIES AT OR ABOVE THAT ONE -/
theorem iso_LEAST {l : List iso_I} : ∀ {ys : List Int} {x : Int}, iso_wf l → iso_fe l ys → iso_co l ys = (iso_st l).1 + iso_S (iso_st l).2.1 (iso_lo ys) → (x ≤ iso_lo ys ∨ ∀ it r, l = it :: r → iso_lev it r ≤ iso_lo ys) → iso_all (iso_sol l x) ys := by
  induction l with
  | nil =>
    intro ys x _ h _ _
    cases ys with
    | nil => trivial
    | cons y ys => exact absurd h id
  | cons it r ih =>
    intro ys x hw h ht hx
    cases ys with
    | nil => exact absurd h id
    | cons y ys =>
      obtain ⟨h1, h2, h3, h4⟩ := h
      obtain ⟨w1, w2, w3, w4⟩ := hw
      obtain ⟨i1, i2, i3, i4⟩ := iso_inv w4
      have hb := iso_LB w4 h4
      have ha := iso_S_anti i1 h3
      have hF := iso_floor h4
      have hy0 : min x (iso_lev it r) ≤ y := by
        rcases hx with hx | hx
        · have : x ≤ y := hx; omega
        · have : iso_lev it r ≤ y := hx it r rfl; omega
      have key : iso_co r ys = (iso_st r).1 + iso_S (iso_st r).2.1 (iso_lo ys) ∧ iso_S (iso_st r).2.1 (iso_lo ys) = iso_S (iso_st r).2.1 y := by
        by_cases hf : it.1 = 1
        · rw [iso_st_fix hf] at ht
          unfold iso_co at ht
          rw [if_pos hf] at ht
          have ht : 0 + iso_co r ys = (iso_st r).1 + iso_S (iso_st r).2.1 y := ht
          exact ⟨by omega, by omega⟩
        · rw [iso_st_non hf] at ht
          unfold iso_co at ht
          rw [if_neg hf, iso_clamp (F := (iso_st r).2.2) (it := it) (y := y) (by omega) h1, Int.mul_add] at ht
          have ht : it.2.2.1 * iso_ab (y - iso_nr (iso_st r).2.2 it) + it.2.2.1 * iso_ab (it.2.1 - iso_nr (iso_st r).2.2 it) + iso_co r ys = (iso_st r).1 + it.2.2.1 * iso_ab (it.2.1 - iso_nr (iso_st r).2.2 it) + (iso_pull (iso_nr (iso_st r).2.2 it) it.2.2.1 (iso_st r).2.1).1 + iso_S (iso_pull (iso_nr (iso_st r).2.2 it) it.2.2.1 (iso_st r).2.1).2 y := ht
          have hp := (iso_pull_S (v := iso_nr (iso_st r).2.2 it) w2 i1 y).1
          exact ⟨by omega, by omega⟩
      unfold iso_sol
      refine ⟨hy0, ih w4 h4 key.1 ?_⟩
      by_cases he : iso_lo ys = y
      · left; omega
      · right
        intro it' r' hr
        subst hr
        cases ys with
        | nil => exact absurd h4 id
        | cons y' ys' =>
          have hlt : y' < y := by
            have e1 : iso_lo (y' :: ys') = y' := rfl
            omega
          by_cases hf' : it'.1 = 1
          · have e : iso_lev it' r' = it'.2.2.2 := by unfold iso_lev; rw [if_pos hf']
            rw [e]
            show it'.2.2.2 ≤ y'
            have := h4.2.1 hf'
            omega
          · obtain ⟨v1, v2, v3, v4⟩ := w4
            have hst := iso_st_non (r := r') hf'
            have hne := iso_pull_ne (v := iso_nr (iso_st r').2.2 it') v2 (iso_inv v4).1
            have e : iso_lev it' r' = iso_hd (iso_pull (iso_nr (iso_st r').2.2 it') it'.2.2.1 (iso_st r').2.1).2 (iso_nr (iso_st r').2.2 it') := by unfold iso_lev; rw [if_neg hf', hst]
            have k2 := key.2
            rw [hst] at k2 i1
            have k2 : iso_S (iso_pull (iso_nr (iso_st r').2.2 it') it'.2.2.1 (iso_st r').2.1).2 y' = iso_S (iso_pull (iso_nr (iso_st r').2.2 it') it'.2.2.1 (iso_st r').2.1).2 y := k2
            have i1 : iso_sd (iso_pull (iso_nr (iso_st r').2.2 it') it'.2.2.1 (iso_st r').2.1).2 := i1
            rw [e]
            cases hP : (iso_pull (iso_nr (iso_st r').2.2 it') it'.2.2.1 (iso_st r').2.1).2 with
            | nil => exact absurd hP hne
            | cons q t =>
              rw [hP] at k2 i1
              show q.1 ≤ y'
              rcases Int.lt_or_le y' q.1 with hq | hq
              · have := iso_S_strict i1 hlt hq
                omega
              · exact hq

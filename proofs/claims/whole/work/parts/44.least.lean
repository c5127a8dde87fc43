/-! the class's Edge: leastCost -/
theorem iso_pull_nn {v w : Int} (hw : 0 < w) {bs : iso_B} (h : iso_sd bs) : 0 ≤ (iso_pull v w bs).1 := by
  have hne := iso_pull_ne (v := v) hw h
  have hsd := iso_pull_sd (v := v) hw h
  obtain ⟨x, hx⟩ : ∃ x, x = iso_hd (iso_pull v w bs).2 v := ⟨_, rfl⟩
  have h1 := (iso_pull_S (v := v) hw h x).2 (by rw [iso_hd_irr hne x v, ← hx]; exact Int.le_refl _)
  have h2 : iso_S (iso_pull v w bs).2 x = 0 := iso_S_zero hsd (fun q hq => by rw [hx]; exact iso_hd_max hsd hne q hq)
  have h3 := iso_S_nn h x
  have h4 : 0 ≤ w * iso_ab (x - v) := Int.mul_nonneg (by omega) (by unfold iso_ab; split <;> omega)
  omega
theorem iso_tak_le {v : Int} (hv0 : 0 ≤ v) (hv1 : v ≤ 400) : ∀ {l : iso_B} {w : Int}, (∀ q ∈ l, (0 ≤ q.1 ∧ q.1 ≤ 400) ∧ 0 < q.2 ∧ q.2 ≤ 40) → 0 ≤ w → (iso_tak v w l).1 ≤ 400 * w := by
  intro l
  induction l with
  | nil => intro w _ hw; simp [iso_tak]; omega
  | cons q r ih =>
    intro w hq hw
    obtain ⟨q1, q2, q3⟩ := hq q List.mem_cons_self
    rw [iso_tak]
    split
    · show (0 : Int) ≤ _; omega
    · split
      · have := mul_bd (t := w) (d := q.1 - v) hw (by omega) (by omega)
        exact this.2
      · have h1 := ih (w := w - q.2) (fun p hp => hq p (List.mem_cons_of_mem _ hp)) (by omega)
        have := mul_bd (t := q.2) (d := q.1 - v) (by omega) (by omega) (by omega)
        show q.2 * (q.1 - v) + (iso_tak v (w - q.2) r).1 ≤ _
        omega
theorem iso_tak_gd {v : Int} : ∀ {l : iso_B} {w : Int}, (∀ q ∈ l, (0 ≤ q.1 ∧ q.1 ≤ 400) ∧ 0 < q.2 ∧ q.2 ≤ 40) → (∀ q ∈ (iso_tak v w l).2, (0 ≤ q.1 ∧ q.1 ≤ 400) ∧ 0 < q.2 ∧ q.2 ≤ 40) ∧ (iso_tak v w l).2.length ≤ l.length := by
  intro l
  induction l with
  | nil => intro w _; simp [iso_tak]
  | cons q r ih =>
    intro w hq
    obtain ⟨q1, q2, q3⟩ := hq q List.mem_cons_self
    rw [iso_tak]
    split
    · exact ⟨hq, Nat.le_refl _⟩
    · split
      · refine ⟨fun p hp => ?_, by simp⟩
        rcases List.mem_cons.mp hp with hp | hp
        · rw [hp]; exact ⟨q1, by show 0 < q.2 - w; omega, by show q.2 - w ≤ 40; omega⟩
        · exact hq p (List.mem_cons_of_mem _ hp)
      · have h1 := ih (w := w - q.2) (fun p hp => hq p (List.mem_cons_of_mem _ hp))
        exact ⟨h1.1, by have := h1.2; simp only [List.length_cons]; show (iso_tak v (w - q.2) r).2.length ≤ _; omega⟩
theorem iso_ins_len {v f : Int} : ∀ {l : iso_B}, (iso_ins v f l).length = l.length + 1 := by
  intro l
  induction l with
  | nil => rfl
  | cons q r ih => unfold iso_ins; split <;> simp [ih]
theorem iso_pull_gd {v w : Int} (hv0 : 0 ≤ v) (hv1 : v ≤ 400) (hw0 : 1 ≤ w) (hw1 : w ≤ 20) {bs : iso_B} (h : ∀ q ∈ bs, (0 ≤ q.1 ∧ q.1 ≤ 400) ∧ 0 < q.2 ∧ q.2 ≤ 40) : (∀ q ∈ (iso_pull v w bs).2, (0 ≤ q.1 ∧ q.1 ≤ 400) ∧ 0 < q.2 ∧ q.2 ≤ 40) ∧ (iso_pull v w bs).2.length ≤ bs.length + 1 ∧ (iso_pull v w bs).1 ≤ 8000 := by
  have hi : ∀ q ∈ iso_ins v (2 * w) bs, (0 ≤ q.1 ∧ q.1 ≤ 400) ∧ 0 < q.2 ∧ q.2 ≤ 40 := fun q hq => by
    rcases iso_ins_mem hq with hq | hq
    · rw [hq]; exact ⟨⟨hv0, hv1⟩, by show 0 < 2 * w; omega, by show 2 * w ≤ 40; omega⟩
    · exact h q hq
  have h1 := iso_tak_gd (v := v) (w := w) hi
  have h2 := iso_tak_le hv0 hv1 (w := w) hi (by omega)
  refine ⟨h1.1, by have := h1.2; rw [iso_ins_len] at this; exact this, ?_⟩
  show (iso_tak v w (iso_ins v (2 * w) bs)).1 ≤ 8000
  omega
theorem iso_st_mono {it : iso_I} {r : List iso_I} (h : iso_wf (it :: r)) : (iso_st r).1 ≤ (iso_st (it :: r)).1 := by
  obtain ⟨h1, h2, h3, h4⟩ := h
  by_cases hf : it.1 = 1
  · rw [iso_st_fix hf]; exact Int.le_refl _
  · rw [iso_st_non hf]
    have a := iso_pull_nn (v := iso_nr (iso_st r).2.2 it) h2 (iso_inv h4).1
    have b : 0 ≤ it.2.2.1 * iso_ab (it.2.1 - iso_nr (iso_st r).2.2 it) := Int.mul_nonneg (by omega) (by unfold iso_ab; split <;> omega)
    show (iso_st r).1 ≤ (iso_st r).1 + _ + _
    omega
theorem lk_all_mono {h g : Int} : ∀ {row : List rw_I} {s : Int} {acc : List iso_I}, iso_wf (lk_all h g s row acc) → iso_wf acc ∧ (iso_st acc).1 ≤ (iso_st (lk_all h g s row acc)).1 := by
  intro row
  induction row with
  | nil => intro s acc hw; exact ⟨hw, Int.le_refl _⟩
  | cons it r ih =>
    intro s acc hw
    obtain ⟨h1, h2⟩ := ih (s := s + it.1 + g) (acc := lk_it h g s it r :: acc) hw
    have h3 := iso_st_mono h1
    refine ⟨h1.2.2.2, ?_⟩
    show _ ≤ (iso_st (lk_all h g (s + it.1 + g) r (lk_it h g s it r :: acc))).1
    omega
/-- the levels, in the order of the row -/
def ed_lv (h g : Int) : Int → List rw_I → List iso_I → List Int
  | _, [], _ => []
  | s, it :: r, acc => iso_lev (lk_it h g s it r) acc :: ed_lv h g (s + it.1 + g) r (lk_it h g s it r :: acc)
/-- what leastCost changes -/
def Se (e a j : Int) : Prop := (a = e ∧ j = 8) ∨ (e + 3 ≤ a ∧ a ≤ e + 6)
theorem Se_Sk {e : Int} (he : e = 18 ∨ e = 25) : ∀ a j, Se e a j → Sk a j := fun a j h => by unfold Se at h; unfold Sk; omega
def ed_ok (μ : am_M) (s T : Int) (r : List Int) : Prop := lk_ok (μ 1 4) (μ 1 5) s (ed_its μ T r) ∧ 0 ≤ lk_c (μ 1 4) (μ 1 5) s (ed_its μ T r)
def ed_co (μ : am_M) (s T : Int) (r : List Int) : Int := (iso_st (lk_all (μ 1 4) (μ 1 5) s (ed_its μ T r) [])).1
theorem pX2_leastCost (n : Nat) (μ : am_M) (e s T lim : Int) (r : List Int) (he : e = 18 ∨ e = 25) (hl0 : Lay n μ) (hc : Bc μ) (hE : Ew n μ e s r) (htp : Ntp μ r) (hne : r ≠ []) (hT : 0 ≤ T ∧ T ≤ 500) (hlim : -100000000 ≤ lim ∧ lim ≤ 100000000) : AC 29 [(2, e), (0, T), (0, lim)] n μ (PI n (fun x μ' => Of (Se e) μ μ' ∧ ((ed_ok μ s T r ∧ x = min (ed_co μ s T r) lim ∧ (ed_co μ s T r < lim → Ar μ' (e + 4) (ed_lv (μ 1 4) (μ 1 5) s (ed_its μ T r) []))) ∨ (¬ ed_ok μ s T r ∧ x = lim)))) := by
  obtain ⟨w1, w2, w3, w4, w5, w6⟩ := id hE
  obtain ⟨c1, c2, c3⟩ := id hc
  obtain ⟨PP, hPP⟩ : ∃ P : Option am_V → Nat → am_M → Prop, P = (PI n (fun x μ' => Of (Se e) μ μ' ∧ ((ed_ok μ s T r ∧ x = min (ed_co μ s T r) lim ∧ (ed_co μ s T r < lim → Ar μ' (e + 4) (ed_lv (μ 1 4) (μ 1 5) s (ed_its μ T r) []))) ∨ (¬ ed_ok μ s T r ∧ x = lim)))) := ⟨_, rfl⟩
  rw [← hPP]
  have hl := hl0
  refine AC.of rfl ?_
  refine aw_aload_n (q := 1) mX2_leastCost dX2_leastCost_0 rfl rfl ?_
  refine aw_iload_n (q := 2) mX2_leastCost dX2_leastCost_1 rfl rfl ?_
  refine aw_v1 (ci := 2) (q := 5) mX2_leastCost dX2_leastCost_2 rfl l2_108 k29_30 rfl (kdE0 he) rfl rfl rfl (pX2_hang n μ e s T r he hl0 hc hE hne hT) (kint (fun y μh hy => ?_))
  obtain ⟨hOh, hy⟩ := hy
  have hlh : Lay n μh := hl0.ofS hOh (Shc_Sk he)
  have hOh' : Of (Se e) μ μh := hOh.mono (fun a j z => by unfold Shc at z; unfold Se; omega)
  have hl := hlh
  rcases hy with ⟨hy1, hok, hce⟩ | ⟨hy1, hno⟩
  · subst hy1
    have hwf : iso_wf (lk_all (μ 1 4) (μ 1 5) s (ed_its μ T r) []) := lk_wf (fun i hi => by
      have : ∀ q : List Int, (∀ x ∈ q, Nc μ x) → ∀ i ∈ ed_its μ T q, 1 ≤ i.2.2.1 := by
        intro q
        induction q with
        | nil => intro _ i hi; simp [ed_its] at hi
        | cons a q ih =>
          intro hN i hi
          rcases List.mem_cons.mp hi with hi | hi
          · rw [hi]; exact (hN a List.mem_cons_self).2.2.1.1
          · exact ih (fun x hx => hN x (List.mem_cons_of_mem _ hx)) i hi
      exact this r (fun x hx => (w5 x hx).2) i hi) hok.1 trivial (fun _ => hok.2)
    -- the loop
    have F : ∀ (suf pre lv : List Int) (sh : Int) (acc : List iso_I) (μ1 : am_M) (v6 v7 v8 : am_V), r = pre ++ suf → (suf ≠ [] → sh = ed_end μ s pre) → Of (Se e) μ μ1 → Ar μ1 (e + 3) (ed_ce μ T s r) → lk_all (μ 1 4) (μ 1 5) s (ed_its μ T r) [] = lk_all (μ 1 4) (μ 1 5) sh (ed_its μ T suf) acc → ed_lv (μ 1 4) (μ 1 5) s (ed_its μ T r) [] = lv ++ ed_lv (μ 1 4) (μ 1 5) sh (ed_its μ T suf) acc → lv.length = pre.length → Ar μ1 (e + 4) lv → Bx μ1 e (iso_st acc).2.1 0 → μ1 e 8 = ((iso_st acc).2.1.length : Int) → (iso_st acc).2.1.length ≤ pre.length → (∀ q ∈ (iso_st acc).2.1, (0 ≤ q.1 ∧ q.1 ≤ 400) ∧ 0 < q.2 ∧ q.2 ≤ 40) → (0 ≤ (iso_st acc).2.2 ∧ (iso_st acc).2.2 ≤ 400) → (0 ≤ (iso_st acc).1 ∧ (iso_st acc).1 ≤ 300000 * (pre.length : Int)) → AW none 29 23 [(2, e), (0, T), (0, lim), (0, (iso_st acc).1), (0, (iso_st acc).2.2), (0, (pre.length : Int)), v6, v7, v8] [] n μ1 PP := by
      intro suf
      induction suf with
      | nil =>
        intro pre lv sh acc μ1 v6 v7 v8 hr hsh hO hce1 hall hlv hlvl hAl hBx hn8 hbl hbq hfl hco
        have hl : Lay n μ1 := hl0.ofS hO (Se_Sk he)
        have e9 : μ1 e 9 = (r.length : Int) := (hO e 9 (by unfold Se; omega)).trans w1
        have hpl : r.length = pre.length := by rw [hr]; simp
        refine aw_iload (q := 25) mX2_leastCost dX2_leastCost_23 rfl rfl ?_
        refine aw_aload_n (q := 26) mX2_leastCost dX2_leastCost_25 rfl rfl ?_
        refine aw_get (t := 0) (ji := 9) (q := 29) mX2_leastCost dX2_leastCost_26 rfl f2_41 rfl (kdE0 he) rfl e9 ?_
        refine aw_icmp_ge (tgt := 174) (q := 32) mX2_leastCost dX2_leastCost_29 rfl (by decide) (fun c_29 => ?_) (fun c_29 => ?_)
        · refine aw_iload_n (q := 175) mX2_leastCost dX2_leastCost_174 rfl rfl ?_
          refine aw_iload_n (q := 176) mX2_leastCost dX2_leastCost_175 rfl rfl ?_
          refine aw_m2 (Or.inr (Or.inl ⟨rfl, rfl, rfl⟩)) (q := 179) mX2_leastCost dX2_leastCost_176 rfl mt2_93 (Nat.le_of_ble_eq_true rfl) (by decide) (by decide) ?_
          refine aw_iret mX2_leastCost dX2_leastCost_179 ?_
          rw [hPP]
          have hall2 : lk_all (μ 1 4) (μ 1 5) s (ed_its μ T r) [] = acc := hall
          refine ⟨_, rfl, rfl, hO, Or.inl ⟨hok, ?_, fun _ => ?_⟩⟩
          · unfold ed_co; rw [hall2]
          · rw [hlv]; show Ar μ1 (e + 4) (lv ++ []); rw [List.append_nil]; exact hAl
        · exact absurd c_29 (by omega)
      | cons x suf ih =>
        intro pre lv sh acc μ1 v6 v7 v8 hr hsh hO hce1 hall hlv hlvl hAl hBx hn8 hbl hbq hfl hco
        have hsh := hsh (by simp)
        have hl : Lay n μ1 := hl0.ofS hO (Se_Sk he)
        have e9 : μ1 e 9 = (r.length : Int) := (hO e 9 (by unfold Se; omega)).trans w1
        have hpl : r.length = pre.length + suf.length + 1 := by rw [hr]; simp; omega
        obtain ⟨hx, hxc⟩ := w5 x (by rw [hr]; simp)
        have hxt := htp x (by rw [hr]; simp)
        obtain ⟨n1, n2, n3, -⟩ := id hxc
        have hk_x := hx.k
        have hx66 := hx.1
        have hee : e ≤ 25 := by omega
        have erow : μ1 (e + 1) (pre.length : Int) = x := (hO (e + 1) _ (by unfold Se; omega)).trans (Ar.mid (by rw [← hr]; exact w3))
        have esh : μ1 (e + 2) (pre.length : Int) = sh := (hO (e + 2) _ (by unfold Se; omega)).trans (by
          have h9 := w4
          rw [hr, ed_sh_app] at h9
          have := Ar.mid (p := ed_sh μ s pre) (x := ed_end μ s pre) h9
          rw [ed_sh_len] at this
          rw [hsh]
          exact this)
        have hsb := ed_end_b c2 (p := pre) (s := s) (fun y hy => (w5 y (by rw [hr]; exact List.mem_append_left _ hy)).2)
        rw [← hsh] at hsb
        have hwf2 := hwf
        rw [hall] at hwf2
        have hmono := lk_all_mono hwf2
        obtain ⟨it, hit⟩ : ∃ it, it = lk_it (μ 1 4) (μ 1 5) sh (ed_it μ T x suf.isEmpty) (ed_its μ T suf) := ⟨_, rfl⟩
        have hall3 : lk_all (μ 1 4) (μ 1 5) s (ed_its μ T r) [] = lk_all (μ 1 4) (μ 1 5) (sh + (ed_it μ T x suf.isEmpty).1 + μ 1 5) (ed_its μ T suf) (it :: acc) := by rw [hall, hit]; rfl
        have hwf3 := hwf
        rw [hall3] at hwf3
        have hmono3 := lk_all_mono hwf3
        have hi4 : it.2.2.2 = lk_c (μ 1 4) (μ 1 5) sh (ed_its μ T (x :: suf)) := by rw [hit]; rfl
        have hcb := lk_c_b hc hT (r := x :: suf) (s := sh) (by simp) (fun y hy => (w5 y (by rw [hr]; exact List.mem_append_right _ hy)).2) (by omega)
        rw [← hi4] at hcb
        have ece : μ1 (e + 3) (pre.length : Int) = it.2.2.2 := by
          obtain ⟨l, l1, l2⟩ := ed_ce_app (μ := μ) (T := T) (q := x :: suf) (by simp) (p := pre) (s := s)
          rw [← hr] at l1
          rw [l1] at hce1
          have := Ar.mid (p := l) (x := lk_c (μ 1 4) (μ 1 5) (ed_end μ s pre) (ed_its μ T (x :: suf))) hce1
          rw [l2] at this
          rw [this, hi4, hsh]
        have hc0 : 0 ≤ it.2.2.2 := by
          have h1 := (iso_inv hmono3.1).2.2
          have : iso_lc (it :: acc) = it.2.2.2 := rfl
          omega
        have hF : (iso_st acc).2.2 ≤ it.2.2.2 := by
          have h1 := (iso_inv hmono.1).2.2.2
          have := hmono3.1.2.2.1
          omega
        have hit1 : it.1 = if 0 ≤ μ x 9 then 1 else 0 := by rw [hit]; rfl
        have hit2 : it.2.1 = μ x 11 - sh := by rw [hit]; rfl
        have hit3 : it.2.2.1 = μ x 1 := by rw [hit]; rfl
        have e9x : μ1 x 9 = μ x 9 := hO x 9 (by unfold Se; omega)
        have e11 : μ1 x 11 = μ x 11 := hO x 11 (by unfold Se; omega)
        have e1x : μ1 x 1 = μ x 1 := hO x 1 (by unfold Se; omega)
        have hlv2 : ed_lv (μ 1 4) (μ 1 5) s (ed_its μ T r) [] = (lv ++ [iso_lev it acc]) ++ ed_lv (μ 1 4) (μ 1 5) (sh + (ed_it μ T x suf.isEmpty).1 + μ 1 5) (ed_its μ T suf) (it :: acc) := by rw [hlv, hit, List.append_assoc]; rfl
        have hsh2 : suf ≠ [] → sh + (ed_it μ T x suf.isEmpty).1 + μ 1 5 = ed_end μ s (pre ++ [x]) := by
          intro h
          rw [ed_end_snoc, hsh]
          cases suf with
          | nil => exact absurd rfl h
          | cons a b => rfl
        -- the next one
        have K : ∀ (μ2 : am_M) (w6 w7 w8 : am_V), Of (Se e) μ μ2 → Ar μ2 (e + 3) (ed_ce μ T s r) → Ar μ2 (e + 4) (lv ++ [iso_lev it acc]) → Bx μ2 e (iso_st (it :: acc)).2.1 0 → μ2 e 8 = ((iso_st (it :: acc)).2.1.length : Int) → (iso_st (it :: acc)).2.1.length ≤ pre.length + 1 → (∀ q ∈ (iso_st (it :: acc)).2.1, (0 ≤ q.1 ∧ q.1 ≤ 400) ∧ 0 < q.2 ∧ q.2 ≤ 40) → (0 ≤ (iso_st (it :: acc)).2.2 ∧ (iso_st (it :: acc)).2.2 ≤ 400) → (0 ≤ (iso_st (it :: acc)).1 ∧ (iso_st (it :: acc)).1 ≤ 300000 * ((pre.length : Int) + 1)) → AW none 29 168 [(2, e), (0, T), (0, lim), (0, (iso_st (it :: acc)).1), (0, (iso_st (it :: acc)).2.2), (0, (pre.length : Int)), w6, w7, w8] [] n μ2 PP := by
          intro μ2 w6 w7 w8 k1 k2 k3 k4 k5 k6 k7 k8 k9
          have h9 := ih (pre ++ [x]) (lv ++ [iso_lev it acc]) _ (it :: acc) μ2 w6 w7 w8 (by rw [hr]; simp) hsh2 k1 k2 hall3 hlv2 (by simp [hlvl]) k3 k4 k5 (by simp; exact k6) k7 k8 (by simp; exact k9)
          refine aw_iinc (q := 171) mX2_leastCost dX2_leastCost_168 rfl rfl (by decide) (by omega) (by omega) rfl ?_
          refine aw_goto (q := 23) mX2_leastCost dX2_leastCost_171 (by decide) ?_
          rw [List.length_append] at h9
          exact h9
        refine aw_iload (q := 25) mX2_leastCost dX2_leastCost_23 rfl rfl ?_
        refine aw_aload_n (q := 26) mX2_leastCost dX2_leastCost_25 rfl rfl ?_
        refine aw_get (t := 0) (ji := 9) (q := 29) mX2_leastCost dX2_leastCost_26 rfl f2_41 rfl (kdE0 he) rfl e9 ?_
        refine aw_icmp_ge (tgt := 174) (q := 32) mX2_leastCost dX2_leastCost_29 rfl (by decide) (fun c_29 => ?_) (fun c_29 => ?_)
        · exact absurd c_29 (by omega)
        · refine aw_iload_n (q := 33) mX2_leastCost dX2_leastCost_32 rfl rfl ?_
          refine aw_iload_n (q := 34) mX2_leastCost dX2_leastCost_33 rfl rfl ?_
          refine aw_icmp_ge (tgt := 174) (q := 37) mX2_leastCost dX2_leastCost_34 rfl (by decide) (fun c_34 => ?_) (fun c_34 => ?_)
          · -- it costs too much already
            refine aw_iload_n (q := 175) mX2_leastCost dX2_leastCost_174 rfl rfl ?_
            refine aw_iload_n (q := 176) mX2_leastCost dX2_leastCost_175 rfl rfl ?_
            refine aw_m2 (Or.inr (Or.inl ⟨rfl, rfl, rfl⟩)) (q := 179) mX2_leastCost dX2_leastCost_176 rfl mt2_93 (Nat.le_of_ble_eq_true rfl) (by decide) (by decide) ?_
            refine aw_iret mX2_leastCost dX2_leastCost_179 ?_
            rw [hPP]
            have : (iso_st acc).1 ≤ ed_co μ s T r := by unfold ed_co; rw [hall]; exact hmono.2
            exact ⟨_, rfl, rfl, hO, Or.inl ⟨hok, by omega, fun z => by omega⟩⟩
          · refine aw_aload_n (q := 38) mX2_leastCost dX2_leastCost_37 rfl rfl ?_
            refine aw_get (t := 2) (ji := 2) (q := 41) mX2_leastCost dX2_leastCost_38 rfl f2_11 rfl (kdE0 he) rfl (lyE2 hl he) ?_
            refine aw_iload (q := 43) mX2_leastCost dX2_leastCost_41 rfl rfl ?_
            refine aw_aald (q := 44) mX2_leastCost dX2_leastCost_43 rfl (kdE1 he) (by omega) (by omega) erow ?_
            refine aw_astore (q := 46) mX2_leastCost dX2_leastCost_44 rfl (by decide) rfl ?_
            refine aw_aload (q := 48) mX2_leastCost dX2_leastCost_46 rfl rfl ?_
            refine aw_v0 (ci := 3) (q := 51) mX2_leastCost dX2_leastCost_48 rfl l2_58 k29_33 rfl hk_x rfl rfl rfl (pX3_isFixed n μ1 x hk_x) (kint (fun y μ3 hy => ?_))
            obtain ⟨hm3, hy⟩ := hy
            subst hm3
            rw [e9x] at hy
            refine aw_if_eq (tgt := 75) (q := 54) mX2_leastCost dX2_leastCost_51 rfl (by decide) (fun c_51 => ?_) (fun c_51 => ?_)
            · -- not fixed
              have hnf : ¬ 0 ≤ μ x 9 := by
                rcases hy with ⟨y1, -⟩ | ⟨-, y2⟩
                · omega
                · have := Decidable.not_not.mp y2; omega
              have hit0 : it.1 ≠ 1 := by rw [hit1, if_neg hnf]; decide
              have hst := iso_st_non (r := acc) hit0
              obtain ⟨nr, hnr⟩ : ∃ nr, nr = iso_nr (iso_st acc).2.2 it := ⟨_, rfl⟩
              have hnrb : 0 ≤ nr ∧ nr ≤ 400 := by rw [hnr]; unfold iso_nr; omega
              have hnr2 : max (iso_st acc).2.2 (min it.2.2.2 (μ x 11 - sh)) = nr := by rw [hnr]; unfold iso_nr; rw [hit2]
              rw [← hnr, hit2, hit3] at hst
              have hab : 0 ≤ iso_ab (μ x 11 - sh - nr) ∧ iso_ab (μ x 11 - sh - nr) ≤ 14000 := by unfold iso_ab; split <;> omega
              have hm0 := Int.mul_nonneg (show 0 ≤ μ x 1 by omega) hab.1
              have hm1 : μ x 1 * iso_ab (μ x 11 - sh - nr) ≤ 20 * 14000 := Int.mul_le_mul n3.2 hab.2 hab.1 (by omega)
              have hpn := iso_pull_nn (v := nr) (w := μ x 1) (by omega) (iso_inv hmono.1).1
              obtain ⟨g1, g2, g3⟩ := iso_pull_gd (v := nr) (w := μ x 1) hnrb.1 hnrb.2 n3.1 n3.2 hbq
              refine aw_aload (q := 77) mX2_leastCost dX2_leastCost_75 rfl rfl ?_
              refine aw_get (t := 0) (ji := 11) (q := 80) mX2_leastCost dX2_leastCost_77 rfl f2_115 rfl hk_x rfl e11 ?_
              refine aw_aload_n (q := 81) mX2_leastCost dX2_leastCost_80 rfl rfl ?_
              refine aw_get (t := 2) (ji := 3) (q := 84) mX2_leastCost dX2_leastCost_81 rfl f2_17 rfl (kdE0 he) rfl (lyE3 hl he) ?_
              refine aw_iload (q := 86) mX2_leastCost dX2_leastCost_84 rfl rfl ?_
              refine aw_iald (q := 87) mX2_leastCost dX2_leastCost_86 rfl (kdE2 he) (by omega) (by omega) esh ?_
              refine aw_isub (q := 88) mX2_leastCost dX2_leastCost_87 rfl (by omega) (by omega) ?_
              refine aw_istore (q := 90) mX2_leastCost dX2_leastCost_88 rfl (by decide) rfl ?_
              refine aw_iload (q := 92) mX2_leastCost dX2_leastCost_90 rfl rfl ?_
              refine aw_aload_n (q := 93) mX2_leastCost dX2_leastCost_92 rfl rfl ?_
              refine aw_get (t := 2) (ji := 4) (q := 96) mX2_leastCost dX2_leastCost_93 rfl f2_21 rfl (kdE0 he) rfl (lyE4 hl he) ?_
              refine aw_iload (q := 98) mX2_leastCost dX2_leastCost_96 rfl rfl ?_
              refine aw_iald (q := 99) mX2_leastCost dX2_leastCost_98 rfl (kdE3 he) (by omega) (by omega) ece ?_
              refine aw_iload (q := 101) mX2_leastCost dX2_leastCost_99 rfl rfl ?_
              refine aw_m2 (Or.inr (Or.inl ⟨rfl, rfl, rfl⟩)) (q := 104) mX2_leastCost dX2_leastCost_101 rfl mt2_93 (Nat.le_of_ble_eq_true rfl) (by decide) (by decide) ?_
              refine aw_m2 (Or.inl ⟨rfl, rfl, rfl⟩) (q := 107) mX2_leastCost dX2_leastCost_104 rfl mt2_118 (Nat.le_of_ble_eq_true rfl) (by decide) (by decide) ?_
              rw [hnr2]
              refine aw_istore (q := 109) mX2_leastCost dX2_leastCost_107 rfl (by decide) rfl ?_
              refine aw_iload_n (q := 110) mX2_leastCost dX2_leastCost_109 rfl rfl ?_
              refine aw_aload (q := 112) mX2_leastCost dX2_leastCost_110 rfl rfl ?_
              refine aw_get (t := 0) (ji := 1) (q := 115) mX2_leastCost dX2_leastCost_112 rfl f2_121 rfl hk_x rfl e1x ?_
              refine aw_iload (q := 117) mX2_leastCost dX2_leastCost_115 rfl rfl ?_
              refine aw_iload (q := 119) mX2_leastCost dX2_leastCost_117 rfl rfl ?_
              refine aw_isub (q := 120) mX2_leastCost dX2_leastCost_119 rfl (by omega) (by omega) ?_
              refine aw_abs (q := 123) mX2_leastCost dX2_leastCost_120 rfl mt2_124 (Nat.le_of_ble_eq_true rfl) (by decide) (by decide) (by omega) (by omega) (show _ = iso_ab (μ x 11 - sh - nr) from rfl) ?_
              refine aw_imul (q := 124) mX2_leastCost dX2_leastCost_123 rfl (by show _ ≤ μ x 1 * iso_ab (μ x 11 - sh - nr); omega) (by show μ x 1 * iso_ab (μ x 11 - sh - nr) < _; omega) ?_
              refine aw_aload_n (q := 125) mX2_leastCost dX2_leastCost_124 rfl rfl ?_
              refine aw_iload (q := 127) mX2_leastCost dX2_leastCost_125 rfl rfl ?_
              refine aw_aload (q := 129) mX2_leastCost dX2_leastCost_127 rfl rfl ?_
              refine aw_get (t := 0) (ji := 1) (q := 132) mX2_leastCost dX2_leastCost_129 rfl f2_121 rfl hk_x rfl e1x ?_
              refine aw_v2 (ci := 2) (q := 135) mX2_leastCost dX2_leastCost_132 rfl l2_128 k29_31 rfl (kdE0 he) rfl rfl rfl (pX2_pull n μ3 e nr (μ x 1) (iso_st acc).2.1 he hl hBx hn8 (by omega) hbq hnrb.1 hnrb.2 n3.1 n3.2) (kint (fun z μ4 hz => ?_))
              obtain ⟨z1, z2, z3, z4⟩ := hz
              subst z1
              have hl4 : Lay n μ4 := hl.ofS z2 (Sb_Sk he)
              have hl := hl4
              have hO4 : Of (Se e) μ μ4 := hO.tr (z2.mono (fun a j q => by unfold Sb at q; unfold Se; omega))
              have hce4 : Ar μ4 (e + 3) (ed_ce μ T s r) := hce1.to (fun j => z2 (e + 3) j (by unfold Sb; omega))
              have hAl4 : Ar μ4 (e + 4) lv := hAl.to (fun j => z2 (e + 4) j (by unfold Sb; omega))
              have hcost : (iso_st acc).1 + (μ x 1 * iso_ab (μ x 11 - sh - nr) + (iso_pull nr (μ x 1) (iso_st acc).2.1).1) = (iso_st (it :: acc)).1 := by rw [hst]; show _ = (iso_st acc).1 + _ + _; omega
              have hst21 : (iso_st (it :: acc)).2.1 = (iso_pull nr (μ x 1) (iso_st acc).2.1).2 := by rw [hst]
              have hst22 : (iso_st (it :: acc)).2.2 = (iso_st acc).2.2 := by rw [hst]
              have hlev : iso_lev it acc = iso_hd (iso_pull nr (μ x 1) (iso_st acc).2.1).2 nr := by unfold iso_lev; rw [if_neg hit0, hst21, ← hnr]
              have hne2 := iso_pull_ne (v := nr) (w := μ x 1) (by omega) (iso_inv hmono.1).1
              obtain ⟨bs, hbs⟩ : ∃ bs, bs = (iso_pull nr (μ x 1) (iso_st acc).2.1).2 := ⟨_, rfl⟩
              rw [← hbs] at z3 z4 g1 g2 hst21 hlev hne2
              cases bs with
              | nil => exact absurd rfl hne2
              | cons q t =>
                have hq1 : iso_lev it acc = q.1 := hlev
                have z5 := z3.1
                rw [show (0 : Int) + (t.length : Int) = ((q :: t).length : Int) - 1 by simp] at z5
                simp only [List.length_cons] at g2
                have hqt : ((q :: t).length : Int) = (t.length : Int) + 1 := by simp
                refine aw_iadd (q := 136) mX2_leastCost dX2_leastCost_135 rfl (by omega) (by omega) ?_
                refine aw_iadd (q := 137) mX2_leastCost dX2_leastCost_136 rfl (by show _ ≤ (iso_st acc).1 + (μ x 1 * iso_ab (μ x 11 - sh - nr) + (iso_pull nr (μ x 1) (iso_st acc).2.1).1); omega) (by show (iso_st acc).1 + (μ x 1 * iso_ab (μ x 11 - sh - nr) + (iso_pull nr (μ x 1) (iso_st acc).2.1).1) < _; omega) ?_
                refine aw_istore_n (q := 138) mX2_leastCost dX2_leastCost_137 rfl (by decide) rfl ?_
                refine aw_aload_n (q := 139) mX2_leastCost dX2_leastCost_138 rfl rfl ?_
                refine aw_get (t := 2) (ji := 5) (q := 142) mX2_leastCost dX2_leastCost_139 rfl f2_24 rfl (kdE0 he) rfl (lyE5 hl he) ?_
                refine aw_iload (q := 144) mX2_leastCost dX2_leastCost_142 rfl rfl ?_
                refine aw_aload_n (q := 145) mX2_leastCost dX2_leastCost_144 rfl rfl ?_
                refine aw_get (t := 0) (ji := 8) (q := 148) mX2_leastCost dX2_leastCost_145 rfl f2_112 rfl (kdE0 he) rfl z4 ?_
                refine aw_if_le (tgt := 165) (q := 151) mX2_leastCost dX2_leastCost_148 rfl (by decide) (fun c_148 => ?_) (fun c_148 => ?_)
                · exact absurd c_148 (by omega)
                · refine aw_aload_n (q := 152) mX2_leastCost dX2_leastCost_151 rfl rfl ?_
                  refine aw_get (t := 2) (ji := 6) (q := 155) mX2_leastCost dX2_leastCost_152 rfl f2_27 rfl (kdE0 he) rfl (lyE6 hl he) ?_
                  refine aw_aload_n (q := 156) mX2_leastCost dX2_leastCost_155 rfl rfl ?_
                  refine aw_get (t := 0) (ji := 8) (q := 159) mX2_leastCost dX2_leastCost_156 rfl f2_112 rfl (kdE0 he) rfl z4 ?_
                  refine aw_iconst (q := 160) mX2_leastCost dX2_leastCost_159 rfl rfl ?_
                  refine aw_isub (q := 161) mX2_leastCost dX2_leastCost_160 rfl (by omega) (by omega) ?_
                  refine aw_iald (q := 162) mX2_leastCost dX2_leastCost_161 rfl (kdE5 he) (by omega) (by omega) z5 ?_
                  refine aw_goto (q := 167) mX2_leastCost dX2_leastCost_162 (by decide) ?_
                  refine aw_iast (q := 168) mX2_leastCost dX2_leastCost_167 rfl (kdE4 he) (by omega) (by omega) (fun μ_167 e_167 => ?_)
                  have hl : Lay n μ_167 := by rw [e_167]; exact laE4 hl he
                  have h9 := K μ_167 (2, x) (0, μ x 11 - sh) (0, nr) (by rw [e_167]; exact hO4.set (by unfold Se; omega)) (hce4.to (fun j => by rw [e_167, am_sn (Or.inl (by omega))])) (hAl4.snoc (by rw [hlvl, e_167, am_ss]; exact hq1.symm) (fun j hj => by rw [e_167, am_sn (Or.inr (by omega))])) (by rw [hst21]; exact z3.to (fun j j0 j1 => by rw [e_167, am_sn (Or.inl (by omega)), am_sn (Or.inl (by omega))]; exact ⟨rfl, rfl⟩)) (by rw [hst21, e_167, am_sn (Or.inl (by omega))]; exact z4) (by rw [hst21]; simp only [List.length_cons]; omega) (by rw [hst21]; exact g1) (by rw [hst22]; exact hfl) (by rw [← hcost]; omega)
                  rw [← hcost, hst22] at h9
                  exact h9
            · -- fixed
              have hf : 0 ≤ μ x 9 := by
                rcases hy with ⟨-, y2⟩ | ⟨y1, -⟩
                · omega
                · exact absurd y1 c_51
              have hit0 : it.1 = 1 := by rw [hit1, if_pos hf]
              have hst := iso_st_fix (r := acc) hit0
              have hlev : iso_lev it acc = it.2.2.2 := by unfold iso_lev; rw [if_pos hit0]
              refine aw_aload_n (q := 55) mX2_leastCost dX2_leastCost_54 rfl rfl ?_
              refine aw_get (t := 2) (ji := 4) (q := 58) mX2_leastCost dX2_leastCost_55 rfl f2_21 rfl (kdE0 he) rfl (lyE4 hl he) ?_
              refine aw_iload (q := 60) mX2_leastCost dX2_leastCost_58 rfl rfl ?_
              refine aw_iald (q := 61) mX2_leastCost dX2_leastCost_60 rfl (kdE3 he) (by omega) (by omega) ece ?_
              refine aw_istore (q := 63) mX2_leastCost dX2_leastCost_61 rfl (by decide) rfl ?_
              refine aw_aload_n (q := 64) mX2_leastCost dX2_leastCost_63 rfl rfl ?_
              refine aw_get (t := 2) (ji := 5) (q := 67) mX2_leastCost dX2_leastCost_64 rfl f2_24 rfl (kdE0 he) rfl (lyE5 hl he) ?_
              refine aw_iload (q := 69) mX2_leastCost dX2_leastCost_67 rfl rfl ?_
              refine aw_iload (q := 71) mX2_leastCost dX2_leastCost_69 rfl rfl ?_
              refine aw_iast (q := 72) mX2_leastCost dX2_leastCost_71 rfl (kdE4 he) (by omega) (by omega) (fun μ_71 e_71 => ?_)
              have hl : Lay n μ_71 := by rw [e_71]; exact laE4 hl he
              refine aw_goto (q := 168) mX2_leastCost dX2_leastCost_72 (by decide) ?_
              have h9 := K μ_71 (2, x) v7 v8 (by rw [e_71]; exact hO.set (by unfold Se; omega)) (hce1.to (fun j => by rw [e_71, am_sn (Or.inl (by omega))])) (hAl.snoc (by rw [hlvl, e_71, am_ss]; exact hlev.symm) (fun j hj => by rw [e_71, am_sn (Or.inr (by omega))])) (by rw [hst]; exact hBx.to (fun j j0 j1 => by rw [e_71, am_sn (Or.inl (by omega)), am_sn (Or.inl (by omega))]; exact ⟨rfl, rfl⟩)) (by rw [hst, e_71, am_sn (Or.inl (by omega))]; exact hn8) (by rw [hst]; show (iso_st acc).2.1.length ≤ _; omega) (by rw [hst]; exact hbq) (by rw [hst]; show 0 ≤ it.2.2.2 ∧ it.2.2.2 ≤ 400; omega) (by rw [hst]; show 0 ≤ (iso_st acc).1 ∧ (iso_st acc).1 ≤ _; omega)
              rw [hst] at h9
              exact h9
    refine aw_if_ne (tgt := 10) (q := 8) mX2_leastCost dX2_leastCost_5 rfl (by decide) (fun c_5 => ?_) (fun c_5 => ?_)
    · refine aw_iconst (q := 11) mX2_leastCost dX2_leastCost_10 rfl rfl ?_
      refine aw_istore_n (q := 12) mX2_leastCost dX2_leastCost_11 rfl (by decide) rfl ?_
      refine aw_iconst (q := 13) mX2_leastCost dX2_leastCost_12 rfl rfl ?_
      refine aw_istore (q := 15) mX2_leastCost dX2_leastCost_13 rfl (by decide) rfl ?_
      refine aw_aload_n (q := 16) mX2_leastCost dX2_leastCost_15 rfl rfl ?_
      refine aw_iconst (q := 17) mX2_leastCost dX2_leastCost_16 rfl rfl ?_
      refine aw_put (t := 0) (ji := 8) (q := 20) mX2_leastCost dX2_leastCost_17 rfl f2_112 rfl (kdE0 he) rfl (Or.inl rfl) (Or.inl (by decide)) (fun μ_17 e_17 => ?_)
      have hl : Lay n μ_17 := by rw [e_17]; exact lfE8 hl he
      refine aw_iconst (q := 21) mX2_leastCost dX2_leastCost_20 rfl rfl ?_
      refine aw_istore (q := 23) mX2_leastCost dX2_leastCost_21 rfl (by decide) rfl ?_
      exact F r [] [] s [] μ_17 _ _ _ rfl (fun _ => rfl) (by rw [e_17]; exact hOh'.set (by unfold Se; omega)) (hce.to (fun j => by rw [e_17, am_sn (Or.inl (by omega))])) rfl rfl rfl Ar.nil trivial (by rw [e_17, am_ss]; rfl) (Nat.le_refl 0) (fun q hq => by simp [iso_st] at hq) (by show (0 : Int) ≤ 0 ∧ (0 : Int) ≤ 400; omega) (by show (0 : Int) ≤ 0 ∧ (0 : Int) ≤ 300000 * 0; omega)
    · exact absurd c_5 (by decide)
  · subst hy1
    refine aw_if_ne (tgt := 10) (q := 8) mX2_leastCost dX2_leastCost_5 rfl (by decide) (fun c_5 => ?_) (fun c_5 => ?_)
    · exact absurd rfl c_5
    · refine aw_iload_n (q := 9) mX2_leastCost dX2_leastCost_8 rfl rfl ?_
      refine aw_iret mX2_leastCost dX2_leastCost_9 ?_
      rw [hPP]
      exact ⟨_, rfl, rfl, hOh', Or.inr ⟨hno, rfl⟩⟩

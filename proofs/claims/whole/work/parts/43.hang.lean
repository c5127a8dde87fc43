/-! the class's Edge: its row, hangCeilings -/
def Nc (μ : am_M) (x : Int) : Prop := (1 ≤ μ x 8 ∧ μ x 8 ≤ 500) ∧ (-1 ≤ μ x 9 ∧ μ x 9 ≤ 400) ∧ (1 ≤ μ x 1 ∧ μ x 1 ≤ 20) ∧ (0 ≤ μ x 5 ∧ μ x 5 ≤ 3) ∧ (1 ≤ μ x 0 ∧ μ x 0 ≤ 100) ∧ (∀ c, 0 ≤ c → c < μ x 5 → 1 ≤ μ (x + 1) c ∧ μ (x + 1) c < μ x 0) ∧ (0 < μ x 5 → μ x 8 = μ x 0)
/-- the line tops of the notes are on a page -/
def Ntp (μ : am_M) (r : List Int) : Prop := ∀ x ∈ r, 0 ≤ μ x 11 ∧ μ x 11 ≤ 400
def Bc (μ : am_M) : Prop := (10 ≤ μ 1 4 ∧ μ 1 4 ≤ 400) ∧ (0 ≤ μ 1 5 ∧ μ 1 5 ≤ 20) ∧ (0 ≤ μ 1 6 ∧ μ 1 6 ≤ 1000)
def ed_it (μ : am_M) (T x : Int) (la : Bool) : rw_I := (if la then T else μ x 8, μ x 9, μ x 1, μ x 11)
def ed_its (μ : am_M) (T : Int) : List Int → List rw_I
  | [] => []
  | x :: r => ed_it μ T x r.isEmpty :: ed_its μ T r
def ed_end (μ : am_M) : Int → List Int → Int
  | s, [] => s
  | s, x :: r => ed_end μ (s + μ x 8 + μ 1 5) r
def ed_sh (μ : am_M) : Int → List Int → List Int
  | _, [] => []
  | s, x :: r => s :: ed_sh μ (s + μ x 8 + μ 1 5) r
theorem ed_end_snoc {μ : am_M} {x : Int} : ∀ {p : List Int} {s : Int}, ed_end μ s (p ++ [x]) = ed_end μ s p + μ x 8 + μ 1 5 := by
  intro p
  induction p with
  | nil => intro s; rfl
  | cons y p ih => intro s; exact ih
theorem ed_sh_app {μ : am_M} {q : List Int} : ∀ {p : List Int} {s : Int}, ed_sh μ s (p ++ q) = ed_sh μ s p ++ ed_sh μ (ed_end μ s p) q := by
  intro p
  induction p with
  | nil => intro s; rfl
  | cons y p ih => intro s; show s :: ed_sh μ _ (p ++ q) = _; rw [ih]; rfl
theorem ed_sh_len {μ : am_M} : ∀ {p : List Int} {s : Int}, (ed_sh μ s p).length = p.length := by
  intro p
  induction p with
  | nil => intro s; rfl
  | cons y p ih => intro s; simp [ed_sh, ih]
theorem ed_end_b {μ : am_M} (hg : 0 ≤ μ 1 5 ∧ μ 1 5 ≤ 20) : ∀ {p : List Int} {s : Int}, (∀ x ∈ p, Nc μ x) → s ≤ ed_end μ s p ∧ ed_end μ s p ≤ s + 520 * (p.length : Int) := by
  intro p
  induction p with
  | nil => intro s _; show s ≤ s ∧ s ≤ s + 520 * 0; omega
  | cons y p ih =>
    intro s h
    have h1 := (h y List.mem_cons_self).1
    have h2 := ih (s := s + μ y 8 + μ 1 5) (fun x hx => h x (List.mem_cons_of_mem _ hx))
    show s ≤ ed_end μ (s + μ y 8 + μ 1 5) p ∧ ed_end μ (s + μ y 8 + μ 1 5) p ≤ _
    simp only [List.length_cons]
    omega
/-- the row of an Edge: these notes' cells, the first one's shift s -/
def Ew (n : Nat) (μ : am_M) (e s : Int) (r : List Int) : Prop := μ e 9 = (r.length : Int) ∧ r.length ≤ 24 ∧ Ar μ (e + 1) r ∧ Ar μ (e + 2) (ed_sh μ s r) ∧ (∀ x ∈ r, Nr n x ∧ Nc μ x) ∧ (0 ≤ s ∧ s ≤ 400)
/-- an array from a place on -/
def Ao (μ : am_M) (a : Int) : Int → List Int → Prop
  | _, [] => True
  | k, x :: r => μ a k = x ∧ Ao μ a (k + 1) r
theorem Ao.to {μ μ1 : am_M} {a : Int} : ∀ {l : List Int} {k : Int}, (∀ j, k ≤ j → μ1 a j = μ a j) → Ao μ a k l → Ao μ1 a k l := by
  intro l
  induction l with
  | nil => intro k _ _; trivial
  | cons x r ih => intro k h ha; exact ⟨by rw [h k (Int.le_refl _)]; exact ha.1, ih (fun j hj => h j (by omega)) ha.2⟩
theorem Ao.ar {μ : am_M} {a : Int} : ∀ {l : List Int} {k : Nat}, Ao μ a (k : Int) l → ∀ (i : Nat) (x : Int), l[i]? = some x → μ a ((k + i : Nat) : Int) = x := by
  intro l
  induction l with
  | nil => intro k _ i x h; simp at h
  | cons y r ih =>
    intro k ha i x h
    cases i with
    | zero => simp at h; rw [← h]; exact ha.1
    | succ i =>
      have h2 : Ao μ a ((k + 1 : Nat) : Int) r := by rw [show ((k + 1 : Nat) : Int) = (k : Int) + 1 by omega]; exact ha.2
      have := ih h2 i x (by simpa using h)
      rw [show k + (i + 1) = k + 1 + i by omega]
      exact this
theorem Ao.ar0 {μ : am_M} {a : Int} {l : List Int} (h : Ao μ a 0 l) : Ar μ a l := fun i x hi => by
  have := Ao.ar (k := 0) h i x hi
  rw [show 0 + i = i by omega] at this
  exact this
def ed_ce (μ : am_M) (T : Int) : Int → List Int → List Int
  | _, [] => []
  | s, x :: r => lk_c (μ 1 4) (μ 1 5) s (ed_its μ T (x :: r)) :: ed_ce μ T (s + μ x 8 + μ 1 5) r
theorem ed_ce_app {μ : am_M} {T : Int} {q : List Int} (hq : q ≠ []) : ∀ {p : List Int} {s : Int}, (∃ l, ed_ce μ T s (p ++ q) = l ++ ed_ce μ T (ed_end μ s p) q ∧ l.length = p.length) := by
  intro p
  induction p with
  | nil => intro s; exact ⟨[], rfl, rfl⟩
  | cons y p ih =>
    intro s
    obtain ⟨l, h1, h2⟩ := ih (s := s + μ y 8 + μ 1 5)
    refine ⟨lk_c (μ 1 4) (μ 1 5) s (ed_its μ T (y :: (p ++ q))) :: l, ?_, by simp [h2]⟩
    show _ :: ed_ce μ T _ (p ++ q) = _
    rw [h1]
    rfl
theorem lk_c_b {μ : am_M} (hc : Bc μ) {T : Int} (hT : 0 ≤ T ∧ T ≤ 500) : ∀ {r : List Int} {s : Int}, r ≠ [] → (∀ x ∈ r, Nc μ x) → 0 ≤ s → -(s + 520 * (r.length : Int)) ≤ lk_c (μ 1 4) (μ 1 5) s (ed_its μ T r) ∧ lk_c (μ 1 4) (μ 1 5) s (ed_its μ T r) ≤ 400 := by
  obtain ⟨c1, c2, c3⟩ := hc
  intro r
  induction r with
  | nil => intro s h; exact absurd rfl h
  | cons x r ih =>
    intro s _ hN hs
    obtain ⟨n1, n2, -⟩ := hN x List.mem_cons_self
    simp only [List.length_cons]
    show -(s + 520 * ((r.length + 1 : Nat) : Int)) ≤ (if 0 ≤ μ x 9 then μ x 9 - s else lk_c (μ 1 4) (μ 1 5) (s + (if r.isEmpty then T else μ x 8) + μ 1 5) (ed_its μ T r)) ∧ (if 0 ≤ μ x 9 then μ x 9 - s else lk_c (μ 1 4) (μ 1 5) (s + (if r.isEmpty then T else μ x 8) + μ 1 5) (ed_its μ T r)) ≤ 400
    split
    · omega
    · cases r with
      | nil => show _ ≤ μ 1 4 + μ 1 5 - (s + T + μ 1 5) ∧ μ 1 4 + μ 1 5 - (s + T + μ 1 5) ≤ 400; simp; omega
      | cons y r =>
        have h9 := ih (s := s + μ x 8 + μ 1 5) (by simp) (fun z hz => hN z (List.mem_cons_of_mem _ hz)) (by omega)
        simp only [List.length_cons] at h9 ⊢
        show _ ≤ lk_c (μ 1 4) (μ 1 5) (s + μ x 8 + μ 1 5) (ed_its μ T (y :: r)) ∧ lk_c (μ 1 4) (μ 1 5) (s + μ x 8 + μ 1 5) (ed_its μ T (y :: r)) ≤ 400
        omega
theorem lk_ok_suf {μ : am_M} {h g T : Int} {q : List Int} (hg : g = μ 1 5) (hq : q ≠ []) : ∀ {p : List Int} {s : Int}, lk_ok h g s (ed_its μ T (p ++ q)) → lk_ok h g (ed_end μ s p) (ed_its μ T q) := by
  intro p
  induction p with
  | nil => intro s h; exact h
  | cons y p ih =>
    intro s hk
    have e : (p ++ q).isEmpty = false := by
      cases p with
      | nil => cases q with
        | nil => exact absurd rfl hq
        | cons a b => rfl
      | cons a b => rfl
    have hk1 : lk_ok h g (s + (if (p ++ q).isEmpty then T else μ y 8) + g) (ed_its μ T (p ++ q)) := hk.1
    rw [e, hg] at hk1
    exact ih (by rw [hg]; exact hk1)
def Shc (e a _j : Int) : Prop := a = e + 3
theorem Shc_Sk {e : Int} (he : e = 18 ∨ e = 25) : ∀ a j, Shc e a j → Sk a j := fun a j h => by unfold Shc at h; unfold Sk; omega
theorem pX2_hang (n : Nat) (μ : am_M) (e s T : Int) (r : List Int) (he : e = 18 ∨ e = 25) (hl0 : Lay n μ) (hc : Bc μ) (hE : Ew n μ e s r) (hne : r ≠ []) (hT : 0 ≤ T ∧ T ≤ 500) : AC 30 [(2, e), (0, T)] n μ (PI n (fun x μ' => Of (Shc e) μ μ' ∧ ((x = 1 ∧ (lk_ok (μ 1 4) (μ 1 5) s (ed_its μ T r) ∧ 0 ≤ lk_c (μ 1 4) (μ 1 5) s (ed_its μ T r)) ∧ Ar μ' (e + 3) (ed_ce μ T s r)) ∨ (x = 0 ∧ ¬ (lk_ok (μ 1 4) (μ 1 5) s (ed_its μ T r) ∧ 0 ≤ lk_c (μ 1 4) (μ 1 5) s (ed_its μ T r)))))) := by
  obtain ⟨w1, w2, w3, w4, w5, w6⟩ := id hE
  obtain ⟨c1, c2, c3⟩ := id hc
  have hgen : ∀ p x q, r = p ++ x :: q → (s ≤ ed_end μ s p ∧ ed_end μ s p ≤ s + 520 * (p.length : Int)) ∧ p.length + q.length + 1 = r.length := fun p x q h => ⟨ed_end_b c2 (fun y hy => (w5 y (by rw [h]; exact List.mem_append_left _ hy)).2), by rw [h]; simp; omega⟩
  have F : ∀ (d : Nat) (pre suf : List Int) (μ1 : am_M) (ce : Int) (v4 : am_V), pre.length = d → r = pre ++ suf → Of (Shc e) μ μ1 → (-30000 ≤ ce ∧ ce ≤ 1000) →
      (∀ p x, pre = p ++ [x] → ce = lk_c (μ 1 4) (μ 1 5) (ed_end μ s p + (if suf.isEmpty then T else μ x 8) + μ 1 5) (ed_its μ T suf) ∧ lk_ok (μ 1 4) (μ 1 5) (ed_end μ s p + (if suf.isEmpty then T else μ x 8) + μ 1 5) (ed_its μ T suf)) →
      (pre = [] → ce = lk_c (μ 1 4) (μ 1 5) s (ed_its μ T suf) ∧ lk_ok (μ 1 4) (μ 1 5) s (ed_its μ T suf)) → (suf ≠ [] → Ao μ1 (e + 3) (pre.length : Int) (ed_ce μ T (ed_end μ s pre) suf)) →
      AW none 30 38 [(2, e), (0, T), (0, ce), (0, (pre.length : Int) - 1), v4] [] n μ1 (PI n (fun x μ' => Of (Shc e) μ μ' ∧ ((x = 1 ∧ (lk_ok (μ 1 4) (μ 1 5) s (ed_its μ T r) ∧ 0 ≤ lk_c (μ 1 4) (μ 1 5) s (ed_its μ T r)) ∧ Ar μ' (e + 3) (ed_ce μ T s r)) ∨ (x = 0 ∧ ¬ (lk_ok (μ 1 4) (μ 1 5) s (ed_its μ T r) ∧ 0 ≤ lk_c (μ 1 4) (μ 1 5) s (ed_its μ T r)))))) := by
    intro d
    induction d with
    | zero =>
      intro pre suf μ1 ce v4 hd hr hO hce h1 h2 h3
      have hp : pre = [] := List.length_eq_zero_iff.mp hd
      subst hp
      have hr : r = suf := hr
      subst hr
      obtain ⟨k1, k2⟩ := h2 rfl
      have k3 := (h3 hne).ar0
      refine aw_iload_n (q := 39) mX2_hangCeilings dX2_hangCeilings_38 rfl rfl ?_
      refine aw_if_lt (tgt := 96) (q := 42) mX2_hangCeilings dX2_hangCeilings_39 rfl (by decide) (fun c_39 => ?_) (fun c_39 => ?_)
      · refine aw_iload_n (q := 97) mX2_hangCeilings dX2_hangCeilings_96 rfl rfl ?_
        refine aw_if_lt (tgt := 104) (q := 100) mX2_hangCeilings dX2_hangCeilings_97 rfl (by decide) (fun c_97 => ?_) (fun c_97 => ?_)
        · refine aw_iconst (q := 105) mX2_hangCeilings dX2_hangCeilings_104 rfl rfl ?_
          refine aw_zret mX2_hangCeilings dX2_hangCeilings_105 (by first | exact Or.inl rfl | exact Or.inr rfl | assumption | omega) ?_
          exact ⟨0, rfl, rfl, hO, Or.inr ⟨rfl, fun z => by have := z.2; omega⟩⟩
        · refine aw_iconst (q := 101) mX2_hangCeilings dX2_hangCeilings_100 rfl rfl ?_
          refine aw_goto (q := 105) mX2_hangCeilings dX2_hangCeilings_101 (by decide) ?_
          refine aw_zret mX2_hangCeilings dX2_hangCeilings_105 (by first | exact Or.inl rfl | exact Or.inr rfl | assumption | omega) ?_
          exact ⟨1, rfl, rfl, hO, Or.inl ⟨rfl, ⟨k2, by omega⟩, k3⟩⟩
      · exact absurd c_39 (by simp)
    | succ d ih =>
      intro pre suf μ1 ce v4 hd hr hO hce h1 h2 h3
      have hl : Lay n μ1 := hl0.ofS hO (Shc_Sk he)
      rcases List.eq_nil_or_concat pre with hp | ⟨p, x, hp⟩
      · rw [hp] at hd; cases hd
      rw [List.concat_eq_append] at hp
      obtain ⟨k1, k2⟩ := h1 p x hp
      have hr2 : r = p ++ x :: suf := by rw [hr, hp]; simp
      obtain ⟨g1, g2⟩ := hgen p x suf hr2
      obtain ⟨hx, hxc⟩ := w5 x (by rw [hr2]; simp)
      have hxN := hxc
      obtain ⟨n1, n2, -⟩ := hxc
      have hpl : pre.length = p.length + 1 := by rw [hp]; simp
      have ei : (pre.length : Int) - 1 = (p.length : Int) := by omega
      rw [ei]
      have erow : μ1 (e + 1) (p.length : Int) = x := (hO (e + 1) _ (by unfold Shc; omega)).trans (Ar.mid (by rw [← hr2]; exact w3))
      have esh : μ1 (e + 2) (p.length : Int) = ed_end μ s p := (hO (e + 2) _ (by unfold Shc; omega)).trans (by
        have h9 := w4
        rw [hr2, ed_sh_app] at h9
        have := Ar.mid (p := ed_sh μ s p) (x := ed_end μ s p) h9
        rw [ed_sh_len] at this
        exact this)
      have e9 : μ1 x 9 = μ x 9 := hO x 9 (by unfold Shc; have := hx.1; omega)
      have hk_x := hx.k
      have hlc : lk_c (μ 1 4) (μ 1 5) (ed_end μ s p) (ed_its μ T (x :: suf)) = if 0 ≤ μ x 9 then μ x 9 - ed_end μ s p else ce := by rw [k1]; rfl
      have hlk : lk_ok (μ 1 4) (μ 1 5) (ed_end μ s p) (ed_its μ T (x :: suf)) ↔ (0 ≤ μ x 9 → μ x 9 - ed_end μ s p ≤ ce) := by
        have e0 : lk_ok (μ 1 4) (μ 1 5) (ed_end μ s p) (ed_its μ T (x :: suf)) = (lk_ok (μ 1 4) (μ 1 5) (ed_end μ s p + (if suf.isEmpty then T else μ x 8) + μ 1 5) (ed_its μ T suf) ∧ (0 ≤ μ x 9 → μ x 9 - ed_end μ s p ≤ lk_c (μ 1 4) (μ 1 5) (ed_end μ s p + (if suf.isEmpty then T else μ x 8) + μ 1 5) (ed_its μ T suf))) := rfl
        rw [e0, ← k1]
        exact ⟨fun z => z.2, fun z => ⟨k2, z⟩⟩
      -- one ceiling more
      have G : ∀ (c' : Int) (w4' : am_V), c' = lk_c (μ 1 4) (μ 1 5) (ed_end μ s p) (ed_its μ T (x :: suf)) → lk_ok (μ 1 4) (μ 1 5) (ed_end μ s p) (ed_its μ T (x :: suf)) → (-30000 ≤ c' ∧ c' ≤ 1000) → AW none 30 83 [(2, e), (0, T), (0, c'), (0, (p.length : Int)), w4'] [] n μ1 (PI n (fun x μ' => Of (Shc e) μ μ' ∧ ((x = 1 ∧ (lk_ok (μ 1 4) (μ 1 5) s (ed_its μ T r) ∧ 0 ≤ lk_c (μ 1 4) (μ 1 5) s (ed_its μ T r)) ∧ Ar μ' (e + 3) (ed_ce μ T s r)) ∨ (x = 0 ∧ ¬ (lk_ok (μ 1 4) (μ 1 5) s (ed_its μ T r) ∧ 0 ≤ lk_c (μ 1 4) (μ 1 5) s (ed_its μ T r)))))) := by
        intro c' w4' hc' hok' hb'
        refine aw_aload_n (q := 84) mX2_hangCeilings dX2_hangCeilings_83 rfl rfl ?_
        refine aw_get (t := 2) (ji := 4) (q := 87) mX2_hangCeilings dX2_hangCeilings_84 rfl f2_21 rfl (kdE0 he) rfl (lyE4 hl he) ?_
        refine aw_iload_n (q := 88) mX2_hangCeilings dX2_hangCeilings_87 rfl rfl ?_
        refine aw_iload_n (q := 89) mX2_hangCeilings dX2_hangCeilings_88 rfl rfl ?_
        refine aw_iast (q := 90) mX2_hangCeilings dX2_hangCeilings_89 rfl (kdE3 he) (by omega) (by omega) (fun μ_89 e_89 => ?_)
        have hl : Lay n μ_89 := by rw [e_89]; exact laE3 hl he
        refine aw_iinc (q := 93) mX2_hangCeilings dX2_hangCeilings_90 rfl rfl (by decide) (by omega) (by omega) rfl ?_
        refine aw_goto (q := 38) mX2_hangCeilings dX2_hangCeilings_93 (by decide) ?_
        rw [show (p.length : Int) + -1 = (p.length : Int) - 1 by omega]
        refine ih p (x :: suf) μ_89 c' w4' (by omega) hr2 (by rw [e_89]; exact hO.set rfl) hb' (fun p2 x2 hp2 => ?_) (fun hp2 => ?_) (fun _ => ?_)
        · have e5 : ed_end μ s p = ed_end μ s p2 + μ x2 8 + μ 1 5 := by rw [hp2, ed_end_snoc]
          show c' = lk_c _ _ (ed_end μ s p2 + μ x2 8 + μ 1 5) _ ∧ lk_ok _ _ (ed_end μ s p2 + μ x2 8 + μ 1 5) _
          rw [← e5]
          exact ⟨hc', hok'⟩
        · rw [hp2] at hc' hok'
          exact ⟨hc', hok'⟩
        · refine ⟨by rw [e_89, am_ss]; exact hc', ?_⟩
          show Ao μ_89 (e + 3) ((p.length : Int) + 1) (ed_ce μ T (ed_end μ s p + μ x 8 + μ 1 5) suf)
          cases suf with
          | nil => trivial
          | cons y sf =>
            have h4 := h3 (by simp)
            rw [hp, ed_end_snoc] at h4
            rw [show (p.length : Int) + 1 = ((p ++ [x]).length : Int) by simp]
            refine Ao.to (fun j hj => ?_) h4
            simp at hj
            rw [e_89, am_sn (Or.inr (by omega))]
      refine aw_iload_n (q := 39) mX2_hangCeilings dX2_hangCeilings_38 rfl rfl ?_
      refine aw_if_lt (tgt := 96) (q := 42) mX2_hangCeilings dX2_hangCeilings_39 rfl (by decide) (fun c_39 => ?_) (fun c_39 => ?_)
      · exact absurd c_39 (by omega)
      · refine aw_aload_n (q := 43) mX2_hangCeilings dX2_hangCeilings_42 rfl rfl ?_
        refine aw_get (t := 2) (ji := 2) (q := 46) mX2_hangCeilings dX2_hangCeilings_43 rfl f2_11 rfl (kdE0 he) rfl (lyE2 hl he) ?_
        refine aw_iload_n (q := 47) mX2_hangCeilings dX2_hangCeilings_46 rfl rfl ?_
        refine aw_aald (q := 48) mX2_hangCeilings dX2_hangCeilings_47 rfl (kdE1 he) (by omega) (by omega) erow ?_
        refine aw_v0 (ci := 3) (q := 51) mX2_hangCeilings dX2_hangCeilings_48 rfl l2_58 k30_33 rfl hk_x rfl rfl rfl (pX3_isFixed n μ1 x hk_x) (kint (fun y μ3 hy => ?_))
        obtain ⟨rfl, hy⟩ := hy
        rw [e9] at hy
        refine aw_if_eq (tgt := 83) (q := 54) mX2_hangCeilings dX2_hangCeilings_51 rfl (by decide) (fun c_51 => ?_) (fun c_51 => ?_)
        · have hnf : ¬ 0 ≤ μ x 9 := by
            rcases hy with ⟨y1, -⟩ | ⟨-, y2⟩
            · omega
            · have := Decidable.not_not.mp y2; omega
          rw [if_neg hnf] at hlc
          exact G ce _ hlc.symm (hlk.mpr (fun z => absurd z hnf)) hce
        · have hf : 0 ≤ μ x 9 := by
            rcases hy with ⟨-, y2⟩ | ⟨y1, -⟩
            · omega
            · exact absurd y1 c_51
          rw [if_pos hf] at hlc
          refine aw_aload_n (q := 55) mX2_hangCeilings dX2_hangCeilings_54 rfl rfl ?_
          refine aw_get (t := 2) (ji := 2) (q := 58) mX2_hangCeilings dX2_hangCeilings_55 rfl f2_11 rfl (kdE0 he) rfl (lyE2 hl he) ?_
          refine aw_iload_n (q := 59) mX2_hangCeilings dX2_hangCeilings_58 rfl rfl ?_
          refine aw_aald (q := 60) mX2_hangCeilings dX2_hangCeilings_59 rfl (kdE1 he) (by omega) (by omega) erow ?_
          refine aw_get (t := 0) (ji := 9) (q := 63) mX2_hangCeilings dX2_hangCeilings_60 rfl f2_62 rfl hk_x rfl e9 ?_
          refine aw_aload_n (q := 64) mX2_hangCeilings dX2_hangCeilings_63 rfl rfl ?_
          refine aw_get (t := 2) (ji := 3) (q := 67) mX2_hangCeilings dX2_hangCeilings_64 rfl f2_17 rfl (kdE0 he) rfl (lyE3 hl he) ?_
          refine aw_iload_n (q := 68) mX2_hangCeilings dX2_hangCeilings_67 rfl rfl ?_
          refine aw_iald (q := 69) mX2_hangCeilings dX2_hangCeilings_68 rfl (kdE2 he) (by omega) (by omega) esh ?_
          refine aw_isub (q := 70) mX2_hangCeilings dX2_hangCeilings_69 rfl (by omega) (by omega) ?_
          refine aw_istore (q := 72) mX2_hangCeilings dX2_hangCeilings_70 rfl (by decide) rfl ?_
          refine aw_iload (q := 74) mX2_hangCeilings dX2_hangCeilings_72 rfl rfl ?_
          refine aw_iload_n (q := 75) mX2_hangCeilings dX2_hangCeilings_74 rfl rfl ?_
          refine aw_icmp_le (tgt := 80) (q := 78) mX2_hangCeilings dX2_hangCeilings_75 rfl (by decide) (fun c_75 => ?_) (fun c_75 => ?_)
          · refine aw_iload (q := 82) mX2_hangCeilings dX2_hangCeilings_80 rfl rfl ?_
            refine aw_istore_n (q := 83) mX2_hangCeilings dX2_hangCeilings_82 rfl (by decide) rfl ?_
            exact G _ _ hlc.symm (hlk.mpr (fun _ => c_75)) (by omega)
          · refine aw_iconst (q := 79) mX2_hangCeilings dX2_hangCeilings_78 rfl rfl ?_
            refine aw_zret mX2_hangCeilings dX2_hangCeilings_79 (by first | exact Or.inl rfl | exact Or.inr rfl | assumption | omega) ?_
            refine ⟨0, rfl, rfl, hO, Or.inr ⟨rfl, fun z => ?_⟩⟩
            have z1 := z.1
            rw [hr2] at z1
            have := hlk.mp (lk_ok_suf rfl (by simp) z1) hf
            omega
  have hl := hl0
  rcases List.eq_nil_or_concat r with hp | ⟨p, x, hp⟩
  · exact absurd hp hne
  rw [List.concat_eq_append] at hp
  obtain ⟨g1, g2⟩ := hgen p x [] hp
  have hrl : r.length = p.length + 1 := by rw [hp]; simp
  have ei : (r.length : Int) - 1 = (p.length : Int) := by omega
  have esh : μ (e + 2) ((r.length : Int) - 1) = ed_end μ s p := by
    have h9 := w4
    rw [hp, ed_sh_app] at h9
    have := Ar.mid (p := ed_sh μ s p) (x := ed_end μ s p) (s := []) h9
    rw [ed_sh_len] at this
    rw [ei]
    exact this
  refine AC.of rfl ?_
  refine aw_aload_n (q := 1) mX2_hangCeilings dX2_hangCeilings_0 rfl rfl ?_
  refine aw_get (t := 0) (ji := 9) (q := 4) mX2_hangCeilings dX2_hangCeilings_1 rfl f2_41 rfl (kdE0 he) rfl w1 ?_
  refine aw_if_ne (tgt := 9) (q := 7) mX2_hangCeilings dX2_hangCeilings_4 rfl (by decide) (fun c_4 => ?_) (fun c_4 => ?_)
  · refine aw_aload_n (q := 10) mX2_hangCeilings dX2_hangCeilings_9 rfl rfl ?_
    refine aw_get (t := 2) (ji := 0) (q := 13) mX2_hangCeilings dX2_hangCeilings_10 rfl f2_33 rfl (kdE0 he) rfl (lyE0 hl he) ?_
    refine aw_get (t := 0) (ji := 4) (q := 16) mX2_hangCeilings dX2_hangCeilings_13 rfl f2_65 rfl kd_1 rfl rfl ?_
    refine aw_iload_n (q := 17) mX2_hangCeilings dX2_hangCeilings_16 rfl rfl ?_
    refine aw_isub (q := 18) mX2_hangCeilings dX2_hangCeilings_17 rfl (by omega) (by omega) ?_
    refine aw_aload_n (q := 19) mX2_hangCeilings dX2_hangCeilings_18 rfl rfl ?_
    refine aw_get (t := 2) (ji := 3) (q := 22) mX2_hangCeilings dX2_hangCeilings_19 rfl f2_17 rfl (kdE0 he) rfl (lyE3 hl he) ?_
    refine aw_aload_n (q := 23) mX2_hangCeilings dX2_hangCeilings_22 rfl rfl ?_
    refine aw_get (t := 0) (ji := 9) (q := 26) mX2_hangCeilings dX2_hangCeilings_23 rfl f2_41 rfl (kdE0 he) rfl w1 ?_
    refine aw_iconst (q := 27) mX2_hangCeilings dX2_hangCeilings_26 rfl rfl ?_
    refine aw_isub (q := 28) mX2_hangCeilings dX2_hangCeilings_27 rfl (by omega) (by omega) ?_
    refine aw_iald (q := 29) mX2_hangCeilings dX2_hangCeilings_28 rfl (kdE2 he) (by omega) (by omega) esh ?_
    refine aw_isub (q := 30) mX2_hangCeilings dX2_hangCeilings_29 rfl (by omega) (by omega) ?_
    refine aw_istore_n (q := 31) mX2_hangCeilings dX2_hangCeilings_30 rfl (by decide) rfl ?_
    refine aw_aload_n (q := 32) mX2_hangCeilings dX2_hangCeilings_31 rfl rfl ?_
    refine aw_get (t := 0) (ji := 9) (q := 35) mX2_hangCeilings dX2_hangCeilings_32 rfl f2_41 rfl (kdE0 he) rfl w1 ?_
    refine aw_iconst (q := 36) mX2_hangCeilings dX2_hangCeilings_35 rfl rfl ?_
    refine aw_isub (q := 37) mX2_hangCeilings dX2_hangCeilings_36 rfl (by omega) (by omega) ?_
    refine aw_istore_n (q := 38) mX2_hangCeilings dX2_hangCeilings_37 rfl (by decide) rfl ?_
    refine F r.length r [] μ _ _ rfl (by simp) Of.rf (by omega) (fun p2 x2 hp2 => ?_) (fun hp2 => absurd hp2 hne) (fun h => absurd rfl h)
    have : p2 = p := by rw [hp] at hp2; exact (List.append_inj' hp2 rfl).1.symm
    subst this
    show μ 1 4 - T - ed_end μ s p2 = μ 1 4 + μ 1 5 - (ed_end μ s p2 + T + μ 1 5) ∧ True
    exact ⟨by omega, trivial⟩
  · exact absurd c_4 (by omega)

/-! the class's Edge: stand -/
def bkh : List Int → Int → Int
  | [], x => x
  | l :: ls, x => min (bkh ls x) l
def lk_sh (g : Int) : Int → List rw_I → List Int
  | _, [] => []
  | s, it :: r => s :: lk_sh g (s + it.1 + g) r
theorem bk_main {h g x0 : Int} : ∀ {its : List rw_I} {s : Int} {acc : List iso_I} {xs a : List Int}, xs.length = its.length → lk_ys g s its xs a = iso_sol (lk_all h g s its acc) x0 → (∀ (i : Nat) (x : Int), xs[i]? = some x → ∃ sh, (lk_sh g s its)[i]? = some sh ∧ x = bkh ((ed_lv h g s its acc).drop i) x0 + sh) ∧ a = iso_sol acc (bkh (ed_lv h g s its acc) x0) := by
  intro its
  induction its with
  | nil =>
    intro s acc xs a hl he
    cases xs with
    | nil => exact ⟨fun i x hi => by simp at hi, he⟩
    | cons x xs => simp at hl
  | cons it r ih =>
    intro s acc xs a hl he
    cases xs with
    | nil => simp at hl
    | cons x xs =>
      obtain ⟨h1, h2⟩ := ih (s := s + it.1 + g) (acc := lk_it h g s it r :: acc) (xs := xs) (a := (x - s) :: a) (by simpa using hl) he
      have h3 : iso_sol (lk_it h g s it r :: acc) (bkh (ed_lv h g (s + it.1 + g) r (lk_it h g s it r :: acc)) x0) = min (bkh (ed_lv h g (s + it.1 + g) r (lk_it h g s it r :: acc)) x0) (iso_lev (lk_it h g s it r) acc) :: iso_sol acc (min (bkh (ed_lv h g (s + it.1 + g) r (lk_it h g s it r :: acc)) x0) (iso_lev (lk_it h g s it r) acc)) := rfl
      rw [h3] at h2
      have h4 : bkh (ed_lv h g s (it :: r) acc) x0 = min (bkh (ed_lv h g (s + it.1 + g) r (lk_it h g s it r :: acc)) x0) (iso_lev (lk_it h g s it r) acc) := rfl
      rw [h4]
      have h5 : x - s = min (bkh (ed_lv h g (s + it.1 + g) r (lk_it h g s it r :: acc)) x0) (iso_lev (lk_it h g s it r) acc) := (List.cons.inj h2).1
      refine ⟨fun i y hi => ?_, (List.cons.inj h2).2⟩
      cases i with
      | zero =>
        have : x = y := by simpa using hi
        refine ⟨s, rfl, ?_⟩
        rw [List.drop_zero, h4, ← this]
        omega
      | succ i =>
        obtain ⟨sh, k1, k2⟩ := h1 i y (by simpa using hi)
        exact ⟨sh, by simpa [lk_sh] using k1, by rw [k2]; rfl⟩
theorem ed_lk_sh {μ : am_M} {T : Int} : ∀ {r : List Int} {s : Int}, lk_sh (μ 1 5) s (ed_its μ T r) = ed_sh μ s r := by
  intro r
  induction r with
  | nil => intro s; rfl
  | cons x r ih =>
    intro s
    cases r with
    | nil => rfl
    | cons y r =>
      show s :: lk_sh (μ 1 5) (s + μ x 8 + μ 1 5) (ed_its μ T (y :: r)) = s :: ed_sh μ (s + μ x 8 + μ 1 5) (y :: r)
      rw [ih]
theorem ed_lv_len {h g : Int} : ∀ {its : List rw_I} {s : Int} {acc : List iso_I}, (ed_lv h g s its acc).length = its.length := by
  intro its
  induction its with
  | nil => intro s acc; rfl
  | cons it r ih => intro s acc; simp [ed_lv, ih]
/-- the last level is the top one of the fit -/
theorem ed_lv_last {h g : Int} : ∀ {its : List rw_I} {s : Int} {acc : List iso_I}, its ≠ [] → (ed_lv h g s its acc).getLast? = some (lk_top (lk_all h g s its acc)) := by
  intro its
  induction its with
  | nil => intro s acc h; exact absurd rfl h
  | cons it r ih =>
    intro s acc _
    cases r with
    | nil => rfl
    | cons i2 r =>
      have := ih (s := s + it.1 + g) (acc := lk_it h g s it (i2 :: r) :: acc) (by simp)
      show (iso_lev _ acc :: ed_lv h g (s + it.1 + g) (i2 :: r) _).getLast? = _
      rw [show ∀ (a : Int) (l : List Int), l ≠ [] → (a :: l).getLast? = l.getLast? from fun a l hl => by cases l with
        | nil => exact absurd rfl hl
        | cons b l => rw [List.getLast?_cons_cons]]
      · exact this
      · intro z; have := congrArg List.length z; simp [ed_lv_len] at this
/-- what stand writes of the notes -/
def Ap (μ' : am_M) (nu rst : Int) (r xs : List Int) : Prop := ∀ (i : Nat) (y x : Int), r[i]? = some y → xs[i]? = some x → μ' y 12 = nu ∧ μ' y 13 = x ∧ μ' y 14 = (if i + 1 = r.length then rst else 0)
def St (e : Int) (r : List Int) (a j : Int) : Prop := Se e a j ∨ (a = e ∧ j = 11) ∨ (12 ≤ j ∧ j ≤ 14 ∧ a ∈ r)
theorem bkh_b {x0 : Int} (h0 : 0 ≤ x0 ∧ x0 ≤ 400) : ∀ {l : List Int}, (∀ x ∈ l, 0 ≤ x ∧ x ≤ 400) → 0 ≤ bkh l x0 ∧ bkh l x0 ≤ 400 := by
  intro l
  induction l with
  | nil => intro _; exact h0
  | cons a l ih =>
    intro h
    have h1 := ih (fun x hx => h x (List.mem_cons_of_mem _ hx))
    have h2 := h a List.mem_cons_self
    show 0 ≤ min (bkh l x0) a ∧ min (bkh l x0) a ≤ 400
    omega
/-- levels are between the floor and the ceiling -/
theorem iso_lev_b {it : iso_I} {acc : List iso_I} (h : iso_wf (it :: acc)) (h4 : it.2.2.2 ≤ 400) : 0 ≤ iso_lev it acc ∧ iso_lev it acc ≤ 400 := by
  obtain ⟨w1, w2, w3, w4⟩ := id h
  have hi := iso_inv h
  have hi0 := iso_inv w4
  have hl : iso_lc (it :: acc) = it.2.2.2 := rfl
  unfold iso_lev
  by_cases hf : it.1 = 1
  · rw [if_pos hf]
    have := hi.2.2
    omega
  · rw [if_neg hf]
    have hne : (iso_st (it :: acc)).2.1 ≠ [] := by rw [iso_st_non hf]; exact iso_pull_ne w2 hi0.1
    have hge : iso_nr (iso_st acc).2.2 it ≤ iso_hd (iso_st (it :: acc)).2.1 (iso_nr (iso_st acc).2.2 it) := by rw [iso_st_non hf]; exact iso_pull_hd w2 hi0.1
    have h0 : 0 ≤ iso_nr (iso_st acc).2.2 it := by unfold iso_nr; have := hi0.2.2.1; omega
    refine ⟨by omega, ?_⟩
    cases hq : (iso_st (it :: acc)).2.1 with
    | nil => exact absurd hq hne
    | cons q t =>
      have := hi.2.1 q (by rw [hq]; exact List.mem_cons_self)
      show q.1 ≤ 400
      omega
theorem ed_lv_b {μ : am_M} (hc : Bc μ) {T : Int} (hT : 0 ≤ T ∧ T ≤ 500) : ∀ {r : List Int} {s : Int} {acc : List iso_I}, (∀ x ∈ r, Nc μ x) → 0 ≤ s → iso_wf (lk_all (μ 1 4) (μ 1 5) s (ed_its μ T r) acc) → ∀ x ∈ ed_lv (μ 1 4) (μ 1 5) s (ed_its μ T r) acc, 0 ≤ x ∧ x ≤ 400 := by
  intro r
  induction r with
  | nil => intro s acc _ _ _ x hx; simp [ed_its, ed_lv] at hx
  | cons y r ih =>
    intro s acc hN hs hw x hx
    have n1 := (hN y List.mem_cons_self).1
    have h1 := lk_c_b hc hT (r := y :: r) (s := s) (by simp) hN hs
    rcases List.mem_cons.mp hx with hx | hx
    · rw [hx]
      exact iso_lev_b (lk_all_mono (row := ed_its μ T r) (s := s + (ed_it μ T y r.isEmpty).1 + μ 1 5) hw).1 h1.2
    · refine ih (fun z hz => hN z (List.mem_cons_of_mem _ hz)) ?_ hw x hx
      show 0 ≤ s + (if r.isEmpty then T else μ y 8) + μ 1 5
      have := hc.2.1
      split <;> omega
theorem ed_wf {μ : am_M} {s T : Int} {r : List Int} (hN : ∀ x ∈ r, Nc μ x) (hok : ed_ok μ s T r) : iso_wf (lk_all (μ 1 4) (μ 1 5) s (ed_its μ T r) []) := lk_wf (fun i hi => by
  have : ∀ q : List Int, (∀ x ∈ q, Nc μ x) → ∀ i ∈ ed_its μ T q, 1 ≤ i.2.2.1 := by
    intro q
    induction q with
    | nil => intro _ i hi; simp [ed_its] at hi
    | cons a q ih =>
      intro hN i hi
      rcases List.mem_cons.mp hi with hi | hi
      · rw [hi]; exact (hN a List.mem_cons_self).2.2.1.1
      · exact ih (fun x hx => hN x (List.mem_cons_of_mem _ hx)) i hi
  exact this r hN i hi) hok.1 trivial (fun _ => hok.2)
theorem pX2_stand (n : Nat) (μ : am_M) (e s cut : Int) (r : List Int) (he : e = 18 ∨ e = 25) (hl0 : Lay n μ) (hc : Bc μ) (hE : Ew n μ e s r) (htp : Ntp μ r) (hnd : r.Nodup) (hcut : 0 ≤ cut) (hfit : ∀ p y, r = p ++ [y] → cut < μ y 0 ∧ ed_D μ s (if 0 < cut then cut else μ y 8) r < rw_NV) : AC 28 [(2, e), (0, cut)] n μ (PV n (fun μ' => Of (St e r) μ μ' ∧ ((r = [] ∧ μ' e 11 = 0) ∨ ∃ p y xs, r = p ++ [y] ∧ rw_gr (μ 1 4) (μ 1 5) s (ed_its μ (if 0 < cut then cut else μ y 8) r) xs ∧ Ap μ' (μ e 1) (if 0 < cut then μ y 0 - cut else 0) r xs ∧ μ' e 11 = (if 0 < cut then μ y 0 - cut else 0)))) := by
  have hNV : rw_NV = 1000000000000 := rfl
  obtain ⟨w1, w2, w3, w4, w5, w6⟩ := id hE
  obtain ⟨c1, c2, c3⟩ := id hc
  have hl := hl0
  have hrN : ∀ x ∈ r, Nr n x := fun x hx => (w5 x hx).1
  have hSt : ∀ a j, St e r a j → Sk a j := fun a j h => by
    unfold St at h
    rcases h with h | h | ⟨h1, h2, h3⟩
    · exact Se_Sk he a j h
    · unfold Sk; omega
    · obtain ⟨k1, k2, k3⟩ := hrN a h3
      unfold Sk; omega
  refine AC.of rfl ?_
  rcases List.eq_nil_or_concat r with hp | ⟨p, y, hp⟩
  · refine aw_aload_n (q := 1) mX2_stand dX2_stand_0 rfl rfl ?_
    refine aw_iconst (q := 2) mX2_stand dX2_stand_1 rfl rfl ?_
    refine aw_put (t := 0) (ji := 11) (q := 5) mX2_stand dX2_stand_2 rfl f2_44 rfl (kdE0 he) rfl (Or.inl rfl) (Or.inl (by decide)) (fun μ_2 e_2 => ?_)
    have hl : Lay n μ_2 := by rw [e_2]; exact lfE11 hl he
    refine aw_aload_n (q := 6) mX2_stand dX2_stand_5 rfl rfl ?_
    refine aw_get (t := 0) (ji := 9) (q := 9) mX2_stand dX2_stand_6 rfl f2_41 rfl (kdE0 he) rfl (rd_sn e_2 (Or.inr (by decide)) w1) ?_
    refine aw_if_ne (tgt := 13) (q := 12) mX2_stand dX2_stand_9 rfl (by decide) (fun c_9 => ?_) (fun c_9 => ?_)
    · exact absurd c_9 (by rw [hp]; simp)
    · refine aw_vret mX2_stand dX2_stand_12 ?_
      exact ⟨rfl, rfl, by rw [e_2]; exact Of.rf.set (Or.inr (Or.inl ⟨rfl, rfl⟩)), Or.inl ⟨hp, by rw [e_2, am_ss]⟩⟩
  rw [List.concat_eq_append] at hp
  have hrl : r.length = p.length + 1 := by rw [hp]; simp
  have hne : r ≠ [] := by rw [hp]; simp
  obtain ⟨hx, hxc⟩ := w5 y (by rw [hp]; simp)
  obtain ⟨n1, n2, n3, n4, n5, n6, n7⟩ := id hxc
  obtain ⟨hcl, hfin⟩ := hfit p y hp
  have hk_y := hx.k
  have hy66 := hx.1
  have ei : (r.length : Int) - 1 = (p.length : Int) := by omega
  have erow : μ (e + 1) ((r.length : Int) - 1) = y := by rw [ei]; exact Ar.mid (s := []) (by rw [← hp]; exact w3)
  obtain ⟨T, hTd⟩ : ∃ T, T = if 0 < cut then cut else μ y 8 := ⟨_, rfl⟩
  rw [← hTd] at hfin
  have hT : 0 ≤ T ∧ T ≤ 500 := by rw [hTd]; split <;> omega
  obtain ⟨lks, -⟩ := ed_lk hc hE htp hne hT
  have hDb := ed_D_b hc hE htp hT hfin
  obtain ⟨rst, hrst⟩ : ∃ z, z = (if 0 < cut then μ y 0 - cut else 0) := ⟨_, rfl⟩
  obtain ⟨lvs, hlvs⟩ : ∃ l, l = ed_lv (μ 1 4) (μ 1 5) s (ed_its μ T r) [] := ⟨_, rfl⟩
  have hlvl : lvs.length = r.length := by rw [hlvs, ed_lv_len, ed_its_len]
  obtain ⟨shs, hshs⟩ : ∃ l, l = ed_sh μ s r := ⟨_, rfl⟩
  have hshl : shs.length = r.length := by rw [hshs, ed_sh_len]
  have hshb : ∀ x ∈ shs, 0 ≤ x ∧ x ≤ 13000 := by
    intro x hx
    rw [hshs] at hx
    obtain ⟨i, hi⟩ := List.getElem?_of_mem hx
    have : ∀ (q : List Int) (s : Int) (i : Nat) (x : Int), (∀ z ∈ q, Nc μ z) → (ed_sh μ s q)[i]? = some x → s ≤ x ∧ x ≤ s + 520 * (q.length : Int) := by
      intro q
      induction q with
      | nil => intro s i x _ h; simp [ed_sh] at h
      | cons z q ih =>
        intro s i x hN h
        have m1 := (hN z List.mem_cons_self).1
        simp only [List.length_cons]
        cases i with
        | zero => have : s = x := by simpa [ed_sh] using h
                  omega
        | succ i =>
          have := ih (s + μ z 8 + μ 1 5) i x (fun w hw => hN w (List.mem_cons_of_mem _ hw)) (by simpa [ed_sh] using h)
          omega
    have := this r s i x (fun z hz => (w5 z hz).2) hi
    omega
  -- the walk back
  have F : ∀ (i : Nat) (μ1 : am_M) (x0 lv : Int), i ≤ r.length → Of (St e r) μ μ1 → Ar μ1 (e + 4) lvs → (0 ≤ x0 ∧ x0 ≤ 400) → (∀ x ∈ lvs, 0 ≤ x ∧ x ≤ 400) → lv = bkh (lvs.drop i) x0 → (∀ (j : Nat) (z sh : Int), i ≤ j → r[j]? = some z → shs[j]? = some sh → μ1 z 12 = μ e 1 ∧ μ1 z 13 = bkh (lvs.drop j) x0 + sh ∧ μ1 z 14 = 0) → μ1 e 11 = 0 → AW none 28 64 [(2, e), (0, cut), (2, y), (0, lv), (0, (i : Int) - 1)] [] n μ1 (PV n (fun μ' => Of (St e r) μ μ' ∧ (∀ (j : Nat) (z sh : Int), r[j]? = some z → shs[j]? = some sh → μ' z 12 = μ e 1 ∧ μ' z 13 = bkh (lvs.drop j) x0 + sh ∧ μ' z 14 = (if j + 1 = r.length then rst else 0)) ∧ μ' e 11 = rst)) := by
    intro i
    induction i with
    | zero =>
      intro μ1 x0 lv hi hO hA hx0 hlb hlv hdone h11
      have hl : Lay n μ1 := hl0.ofS hO hSt
      have e0 : μ1 y 0 = μ y 0 := hO y 0 (by
        unfold St Se; rintro (z | z | z)
        · omega
        · omega
        · omega)
      refine aw_iload (q := 66) mX2_stand dX2_stand_64 rfl rfl ?_
      refine aw_if_lt (tgt := 131) (q := 69) mX2_stand dX2_stand_66 rfl (by decide) (fun c_66 => ?_) (fun c_66 => ?_)
      · refine aw_iload_n (q := 132) mX2_stand dX2_stand_131 rfl rfl ?_
        refine aw_if_le (tgt := 153) (q := 135) mX2_stand dX2_stand_132 rfl (by decide) (fun c_132 => ?_) (fun c_132 => ?_)
        · -- no cut
          rw [if_neg (by omega)] at hrst
          refine aw_vret mX2_stand dX2_stand_153 ?_
          refine ⟨rfl, rfl, hO, fun j z sh h1 h2 => ?_, by rw [h11, hrst]⟩
          obtain ⟨k1, k2, k3⟩ := hdone j z sh (Nat.zero_le _) h1 h2
          refine ⟨k1, k2, ?_⟩
          rw [k3, hrst]
          split <;> rfl
        · rw [if_pos (by omega)] at hrst
          refine aw_aload_n (q := 136) mX2_stand dX2_stand_135 rfl rfl ?_
          refine aw_aload_n (q := 137) mX2_stand dX2_stand_136 rfl rfl ?_
          refine aw_get (t := 0) (ji := 0) (q := 140) mX2_stand dX2_stand_137 rfl f2_107 rfl hk_y rfl e0 ?_
          refine aw_iload_n (q := 141) mX2_stand dX2_stand_140 rfl rfl ?_
          refine aw_isub (q := 142) mX2_stand dX2_stand_141 rfl (by omega) (by omega) ?_
          refine aw_put (t := 0) (ji := 14) (q := 145) mX2_stand dX2_stand_142 rfl f2_104 rfl hk_y rfl (Or.inl rfl) (Or.inl (by decide)) (fun μ_142 e_142 => ?_)
          refine aw_aload_n (q := 146) mX2_stand dX2_stand_145 rfl rfl ?_
          refine aw_aload_n (q := 147) mX2_stand dX2_stand_146 rfl rfl ?_
          refine aw_get (t := 0) (ji := 14) (q := 150) mX2_stand dX2_stand_147 rfl f2_104 rfl hk_y rfl (rd_ss e_142) ?_
          refine aw_put (t := 0) (ji := 11) (q := 153) mX2_stand dX2_stand_150 rfl f2_44 rfl (kdE0 he) rfl (Or.inl rfl) (Or.inl (by decide)) (fun μ_150 e_150 => ?_)
          refine aw_vret mX2_stand dX2_stand_153 ?_
          have hO2 : Of (St e r) μ μ_150 := by rw [e_150, e_142]; exact (hO.set (Or.inr (Or.inr ⟨by decide, by decide, by rw [hp]; simp⟩))).set (Or.inr (Or.inl ⟨rfl, rfl⟩))
          refine ⟨rfl, rfl, hO2, fun j z sh h1 h2 => ?_, by rw [e_150, am_ss, hrst]⟩
          obtain ⟨k1, k2, k3⟩ := hdone j z sh (Nat.zero_le _) h1 h2
          have hz66 := (hrN z (List.mem_of_getElem? h1)).1
          refine ⟨?_, ?_, ?_⟩
          · rw [e_150, am_sn (Or.inr (by decide)), e_142, am_sn (Or.inr (by decide))]; exact k1
          · rw [e_150, am_sn (Or.inr (by decide)), e_142, am_sn (Or.inr (by decide))]; exact k2
          · rw [e_150, am_sn (Or.inr (by decide)), e_142]
            by_cases hj : j + 1 = r.length
            · have : z = y := by
                have e1 : j = p.length := by omega
                rw [hp, e1] at h1
                simpa using h1.symm
              rw [this, am_ss, if_pos hj, hrst]
            · have : z ≠ y := by
                intro hzy
                have hj2 : j < r.length := (List.getElem?_eq_some_iff.mp h1).1
                have e1 : r[p.length]? = some y := by rw [hp]; simp
                rw [hzy] at h1
                have := (List.getElem?_inj hj2 hnd).mp (h1.trans e1.symm)
                omega
              rw [am_sn (Or.inl this), if_neg hj]
              exact k3
      · exact absurd c_66 (by omega)
    | succ i ih =>
      intro μ1 x0 lv hi hO hA hx0 hlb hlv hdone h11
      have hl : Lay n μ1 := hl0.ofS hO hSt
      have hir : i < r.length := by omega
      obtain ⟨z, hz⟩ : ∃ z, r[i]? = some z := ⟨r[i], by simp [hir]⟩
      obtain ⟨sh, hsh⟩ : ∃ z, shs[i]? = some z := ⟨shs[i]'(by omega), by simp [show i < shs.length by omega]⟩
      obtain ⟨l, hlz⟩ : ∃ z, lvs[i]? = some z := ⟨lvs[i]'(by omega), by simp [show i < lvs.length by omega]⟩
      have hzm := List.mem_of_getElem? hz
      have hzr := hrN z hzm
      have hk_z := hzr.k
      have hg_z := hzr.1
      have hlb1 := hlb l (List.mem_of_getElem? hlz)
      have hlb2 := bkh_b hx0 (l := lvs.drop (i + 1)) (fun x hx => hlb x (List.mem_of_mem_drop hx))
      rw [← hlv] at hlb2
      have hshb2 := hshb sh (List.mem_of_getElem? hsh)
      have er : μ1 (e + 1) (i : Int) = z := (hO (e + 1) _ (by
        unfold St Se; rintro (q | q | q)
        · omega
        · omega
        · have := (hrN _ q.2.2).1; omega)).trans (w3 i z hz)
      have es : μ1 (e + 2) (i : Int) = sh := (hO (e + 2) _ (by
        unfold St Se; rintro (q | q | q)
        · omega
        · omega
        · have := (hrN _ q.2.2).1; omega)).trans (w4 i sh (by rw [← hshs]; exact hsh))
      have el : μ1 (e + 4) (i : Int) = l := hA i l hlz
      have en : μ1 e 1 = μ e 1 := hO e 1 (by
        unfold St Se; rintro (q | q | q)
        · omega
        · omega
        · omega)
      have hb : min lv l = bkh (lvs.drop i) x0 := by
        have hd : lvs.drop i = l :: lvs.drop (i + 1) := by
          have hi2 : i < lvs.length := by omega
          rw [List.drop_eq_getElem_cons hi2]
          congr 1
          rw [List.getElem?_eq_getElem hi2] at hlz
          exact Option.some.inj hlz
        rw [hd, hlv]
        rfl
      rw [show ((i + 1 : Nat) : Int) - 1 = (i : Int) by omega]
      refine aw_iload (q := 66) mX2_stand dX2_stand_64 rfl rfl ?_
      refine aw_if_lt (tgt := 131) (q := 69) mX2_stand dX2_stand_66 rfl (by decide) (fun c_66 => ?_) (fun c_66 => ?_)
      · exact absurd c_66 (by omega)
      · refine aw_iload_n (q := 70) mX2_stand dX2_stand_69 rfl rfl ?_
        refine aw_aload_n (q := 71) mX2_stand dX2_stand_70 rfl rfl ?_
        refine aw_get (t := 2) (ji := 5) (q := 74) mX2_stand dX2_stand_71 rfl f2_24 rfl (kdE0 he) rfl (lyE5 hl he) ?_
        refine aw_iload (q := 76) mX2_stand dX2_stand_74 rfl rfl ?_
        refine aw_iald (q := 77) mX2_stand dX2_stand_76 rfl (kdE4 he) (by omega) (by omega) el ?_
        refine aw_m2 (Or.inr (Or.inl ⟨rfl, rfl, rfl⟩)) (q := 80) mX2_stand dX2_stand_77 rfl mt2_93 (Nat.le_of_ble_eq_true rfl) (by decide) (by decide) ?_
        refine aw_istore_n (q := 81) mX2_stand dX2_stand_80 rfl (by decide) rfl ?_
        refine aw_aload_n (q := 82) mX2_stand dX2_stand_81 rfl rfl ?_
        refine aw_get (t := 2) (ji := 2) (q := 85) mX2_stand dX2_stand_82 rfl f2_11 rfl (kdE0 he) rfl (lyE2 hl he) ?_
        refine aw_iload (q := 87) mX2_stand dX2_stand_85 rfl rfl ?_
        refine aw_aald (q := 88) mX2_stand dX2_stand_87 rfl (kdE1 he) (by omega) (by omega) er ?_
        refine aw_aload_n (q := 89) mX2_stand dX2_stand_88 rfl rfl ?_
        refine aw_get (t := 0) (ji := 1) (q := 92) mX2_stand dX2_stand_89 rfl f2_37 rfl (kdE0 he) rfl en ?_
        refine aw_put (t := 0) (ji := 12) (q := 95) mX2_stand dX2_stand_92 rfl f2_98 rfl hk_z rfl (Or.inl rfl) (Or.inl (by decide)) (fun μ_92 e_92 => ?_)
        have hl : Lay n μ_92 := by rw [e_92]; exact Lay.setN hg_z (fun _ => by decide) hl
        refine aw_aload_n (q := 96) mX2_stand dX2_stand_95 rfl rfl ?_
        refine aw_get (t := 2) (ji := 2) (q := 99) mX2_stand dX2_stand_96 rfl f2_11 rfl (kdE0 he) rfl (lyE2 hl he) ?_
        refine aw_iload (q := 101) mX2_stand dX2_stand_99 rfl rfl ?_
        refine aw_aald (q := 102) mX2_stand dX2_stand_101 rfl (kdE1 he) (by omega) (by omega) (rd_sn e_92 (Or.inl (by omega)) er) ?_
        refine aw_iload_n (q := 103) mX2_stand dX2_stand_102 rfl rfl ?_
        refine aw_aload_n (q := 104) mX2_stand dX2_stand_103 rfl rfl ?_
        refine aw_get (t := 2) (ji := 3) (q := 107) mX2_stand dX2_stand_104 rfl f2_17 rfl (kdE0 he) rfl (lyE3 hl he) ?_
        refine aw_iload (q := 109) mX2_stand dX2_stand_107 rfl rfl ?_
        refine aw_iald (q := 110) mX2_stand dX2_stand_109 rfl (kdE2 he) (by omega) (by omega) (rd_sn e_92 (Or.inl (by omega)) es) ?_
        refine aw_iadd (q := 111) mX2_stand dX2_stand_110 rfl (by omega) (by omega) ?_
        refine aw_put (t := 0) (ji := 13) (q := 114) mX2_stand dX2_stand_111 rfl f2_101 rfl hk_z rfl (Or.inl rfl) (Or.inl (by decide)) (fun μ_111 e_111 => ?_)
        have hl : Lay n μ_111 := by rw [e_111]; exact Lay.setN hg_z (fun _ => by decide) hl
        refine aw_aload_n (q := 115) mX2_stand dX2_stand_114 rfl rfl ?_
        refine aw_get (t := 2) (ji := 2) (q := 118) mX2_stand dX2_stand_115 rfl f2_11 rfl (kdE0 he) rfl (lyE2 hl he) ?_
        refine aw_iload (q := 120) mX2_stand dX2_stand_118 rfl rfl ?_
        refine aw_aald (q := 121) mX2_stand dX2_stand_120 rfl (kdE1 he) (by omega) (by omega) (rd_sn e_111 (Or.inl (by omega)) (rd_sn e_92 (Or.inl (by omega)) er)) ?_
        refine aw_iconst (q := 122) mX2_stand dX2_stand_121 rfl rfl ?_
        refine aw_put (t := 0) (ji := 14) (q := 125) mX2_stand dX2_stand_122 rfl f2_104 rfl hk_z rfl (Or.inl rfl) (Or.inl (by decide)) (fun μ_122 e_122 => ?_)
        have hl : Lay n μ_122 := by rw [e_122]; exact Lay.setN hg_z (fun _ => by decide) hl
        refine aw_iinc (q := 128) mX2_stand dX2_stand_125 rfl rfl (by decide) (by omega) (by omega) rfl ?_
        refine aw_goto (q := 64) mX2_stand dX2_stand_128 (by decide) ?_
        have hO2 : Of (St e r) μ μ_122 := by rw [e_122, e_111, e_92]; exact ((hO.set (Or.inr (Or.inr ⟨by decide, by decide, hzm⟩))).set (Or.inr (Or.inr ⟨by decide, by decide, hzm⟩))).set (Or.inr (Or.inr ⟨by decide, by decide, hzm⟩))
        have h9 := ih μ_122 x0 (min lv l) (by omega) hO2 (hA.to (fun j => by rw [e_122, am_sn (Or.inl (by omega)), e_111, am_sn (Or.inl (by omega)), e_92, am_sn (Or.inl (by omega))])) hx0 hlb hb (fun j z' sh' hj h1 h2 => by
          by_cases hje : j = i
          · rw [hje] at h1 h2
            rw [hz] at h1
            rw [hsh] at h2
            cases h1
            cases h2
            refine ⟨?_, ?_, ?_⟩
            · rw [e_122, am_sn (Or.inr (by decide)), e_111, am_sn (Or.inr (by decide)), e_92, am_ss]
            · rw [e_122, am_sn (Or.inr (by decide)), e_111, am_ss, hje, hb]
            · rw [e_122, am_ss]
          · obtain ⟨k1, k2, k3⟩ := hdone j z' sh' (by omega) h1 h2
            have hne2 : z' ≠ z := by
              intro hzz
              have hj2 : j < r.length := (List.getElem?_eq_some_iff.mp h1).1
              rw [hzz] at h1
              exact hje ((List.getElem?_inj hj2 hnd).mp (h1.trans hz.symm))
            refine ⟨?_, ?_, ?_⟩
            · rw [e_122, am_sn (Or.inl hne2), e_111, am_sn (Or.inl hne2), e_92, am_sn (Or.inl hne2)]; exact k1
            · rw [e_122, am_sn (Or.inl hne2), e_111, am_sn (Or.inl hne2), e_92, am_sn (Or.inl hne2)]; exact k2
            · rw [e_122, am_sn (Or.inl hne2), e_111, am_sn (Or.inl hne2), e_92, am_sn (Or.inl hne2)]; exact k3) (by rw [e_122, am_sn (Or.inl (by omega)), e_111, am_sn (Or.inl (by omega)), e_92, am_sn (Or.inl (by omega))]; exact h11)
        rw [show (i : Int) + -1 = (i : Int) - 1 by omega]
        exact h9
  -- behind the choice of the tall
  have J : ∀ μ_2 : am_M, μ_2 = am_set μ e 11 0 → Lay n μ_2 → AW none 28 38 [(2, e), (0, cut), (2, y), (9, 0), (9, 0)] [(0, T), (2, e)] n μ_2 (PV n (fun μ' => Of (St e r) μ μ' ∧ ((r = [] ∧ μ' e 11 = 0) ∨ ∃ p y xs, r = p ++ [y] ∧ rw_gr (μ 1 4) (μ 1 5) s (ed_its μ (if 0 < cut then cut else μ y 8) r) xs ∧ Ap μ' (μ e 1) (if 0 < cut then μ y 0 - cut else 0) r xs ∧ μ' e 11 = (if 0 < cut then μ y 0 - cut else 0)))) := by
    intro μ_2 e_2 hl
    have hO2 : Of (St e r) μ μ_2 := by rw [e_2]; exact Of.rf.set (Or.inr (Or.inl ⟨rfl, rfl⟩))
    have hO2' : Of (fun a j => a = e ∧ j = 11) μ μ_2 := by rw [e_2]; exact Of.rf.set ⟨rfl, rfl⟩
    have hNT : NT μ μ_2 := hO2'.nt (fun a j z => by unfold Sk; omega) (fun a j z => by omega)
    have hE2 : Ew n μ_2 e s r := hE.tr hNT.1 (hO2' e 9 (by omega)) (fun j => hO2' _ j (by omega)) (fun j => hO2' _ j (by omega))
    have hlc := pX2_lc n μ_2 e s T 16777216 r he hl (hc.tr hNT.1) hE2 (htp.tr hNT hrN) hne hT (by omega)
    rw [hNT.D hrN] at hlc
    refine aw_ldc (q := 40) mX2_stand dX2_stand_38 rfl ld2_92 ?_
    refine aw_v2 (ci := 2) (q := 43) mX2_stand dX2_stand_40 rfl l2_85 k28_29 rfl (kdE0 he) rfl rfl rfl (hlc) (kint (fun q μ3 hq => ?_))
    obtain ⟨-, q2, q3⟩ := hq
    obtain ⟨q4, q5⟩ := q3 (by omega)
    have hok : ed_ok μ s T r := by
      unfold ed_ok at q4 ⊢
      rw [hNT.its hrN, hNT.1.1 4 (by decide) (by decide), hNT.1.1 5 (by decide) (by decide)] at q4
      exact q4
    rw [hNT.its hrN, hNT.1.1 4 (by decide) (by decide), hNT.1.1 5 (by decide) (by decide), ← hlvs] at q5
    obtain ⟨k1, k2, xs, k3, k4⟩ := lks hok
    have hwf := ed_wf (fun x hx => (w5 x hx).2) hok
    have hlb : ∀ x ∈ lvs, 0 ≤ x ∧ x ≤ 400 := by rw [hlvs]; exact ed_lv_b hc hT (fun x hx => (w5 x hx).2) w6.1 hwf
    obtain ⟨x0, hx0⟩ : ∃ z, z = lk_top (lk_all (μ 1 4) (μ 1 5) s (ed_its μ T r) []) := ⟨_, rfl⟩
    rw [← hx0] at k4
    have hlast : lvs.getLast? = some x0 := by rw [hlvs, hx0]; exact ed_lv_last (by intro z; have := congrArg List.length z; rw [ed_its_len] at this; simp at this; exact hne this)
    have hlat : lvs[p.length]? = some x0 := by
      rw [List.getLast?_eq_getElem?] at hlast
      rw [← hlast]
      congr 1
      omega
    have hx0b := hlb x0 (List.mem_of_getElem? hlat)
    have hO3 : Of (St e r) μ μ3 := hO2.tr (q2.mono (fun a j z => Or.inl z))
    have hl : Lay n μ3 := hl0.ofS hO3 hSt
    have e9 : μ3 e 9 = (r.length : Int) := (q2 e 9 (by unfold Se; omega)).trans (hE2.1)
    have e11 : μ3 e 11 = 0 := (q2 e 11 (by unfold Se; omega)).trans (by rw [e_2, am_ss])
    have elast : μ3 (e + 4) ((r.length : Int) - 1) = x0 := by rw [ei]; exact q5 p.length x0 hlat
    have hxl : xs.length = (ed_its μ T r).length := rw_gr_len k3
    have hbk := (bk_main (h := μ 1 4) (g := μ 1 5) (x0 := x0) (acc := []) (a := []) hxl k4).1
    rw [ed_lk_sh, ← hshs, ← hlvs] at hbk
    have h9 := F r.length μ3 x0 x0 (Nat.le_refl _) hO3 q5 hx0b hlb (by rw [List.drop_eq_nil_of_le (by omega)]; rfl) (fun j z sh hj h1 h2 => by
      have := (List.getElem?_eq_some_iff.mp h1).1
      omega) e11
    refine aw_pop (q := 44) mX2_stand dX2_stand_43 rfl ?_
    refine aw_aload_n (q := 45) mX2_stand dX2_stand_44 rfl rfl ?_
    refine aw_get (t := 2) (ji := 5) (q := 48) mX2_stand dX2_stand_45 rfl f2_24 rfl (kdE0 he) rfl (lyE5 hl he) ?_
    refine aw_aload_n (q := 49) mX2_stand dX2_stand_48 rfl rfl ?_
    refine aw_get (t := 0) (ji := 9) (q := 52) mX2_stand dX2_stand_49 rfl f2_41 rfl (kdE0 he) rfl e9 ?_
    refine aw_iconst (q := 53) mX2_stand dX2_stand_52 rfl rfl ?_
    refine aw_isub (q := 54) mX2_stand dX2_stand_53 rfl (by omega) (by omega) ?_
    refine aw_iald (q := 55) mX2_stand dX2_stand_54 rfl (kdE4 he) (by omega) (by omega) elast ?_
    refine aw_istore_n (q := 56) mX2_stand dX2_stand_55 rfl (by decide) rfl ?_
    refine aw_aload_n (q := 57) mX2_stand dX2_stand_56 rfl rfl ?_
    refine aw_get (t := 0) (ji := 9) (q := 60) mX2_stand dX2_stand_57 rfl f2_41 rfl (kdE0 he) rfl e9 ?_
    refine aw_iconst (q := 61) mX2_stand dX2_stand_60 rfl rfl ?_
    refine aw_isub (q := 62) mX2_stand dX2_stand_61 rfl (by omega) (by omega) ?_
    refine aw_istore (q := 64) mX2_stand dX2_stand_62 rfl (by decide) rfl ?_
    refine h9.mono ?_
    rintro q n' μ' ⟨r1, r2, r3, r4, r5⟩
    refine ⟨r1, r2, r3, Or.inr ⟨p, y, xs, hp, by rw [← hTd]; exact k3, fun i z x hz hx => ?_, by rw [r5, hrst]⟩⟩
    obtain ⟨sh, s1, s2⟩ := hbk i x hx
    obtain ⟨t1, t2, t3⟩ := r4 i z sh hz s1
    rw [← hrst]
    exact ⟨t1, by rw [t2, s2], t3⟩
  refine aw_aload_n (q := 1) mX2_stand dX2_stand_0 rfl rfl ?_
  refine aw_iconst (q := 2) mX2_stand dX2_stand_1 rfl rfl ?_
  refine aw_put (t := 0) (ji := 11) (q := 5) mX2_stand dX2_stand_2 rfl f2_44 rfl (kdE0 he) rfl (Or.inl rfl) (Or.inl (by decide)) (fun μ_2 e_2 => ?_)
  have hl : Lay n μ_2 := by rw [e_2]; exact lfE11 hl he
  refine aw_aload_n (q := 6) mX2_stand dX2_stand_5 rfl rfl ?_
  refine aw_get (t := 0) (ji := 9) (q := 9) mX2_stand dX2_stand_6 rfl f2_41 rfl (kdE0 he) rfl (rd_sn e_2 (Or.inr (by decide)) w1) ?_
  refine aw_if_ne (tgt := 13) (q := 12) mX2_stand dX2_stand_9 rfl (by decide) (fun c_9 => ?_) (fun c_9 => ?_)
  · refine aw_aload_n (q := 14) mX2_stand dX2_stand_13 rfl rfl ?_
    refine aw_get (t := 2) (ji := 2) (q := 17) mX2_stand dX2_stand_14 rfl f2_11 rfl (kdE0 he) rfl (lyE2 hl he) ?_
    refine aw_aload_n (q := 18) mX2_stand dX2_stand_17 rfl rfl ?_
    refine aw_get (t := 0) (ji := 9) (q := 21) mX2_stand dX2_stand_18 rfl f2_41 rfl (kdE0 he) rfl (rd_sn e_2 (Or.inr (by decide)) w1) ?_
    refine aw_iconst (q := 22) mX2_stand dX2_stand_21 rfl rfl ?_
    refine aw_isub (q := 23) mX2_stand dX2_stand_22 rfl (by omega) (by omega) ?_
    refine aw_aald (q := 24) mX2_stand dX2_stand_23 rfl (kdE1 he) (by omega) (by omega) (rd_sn e_2 (Or.inl (by omega)) erow) ?_
    refine aw_astore_n (q := 25) mX2_stand dX2_stand_24 rfl (by decide) rfl ?_
    refine aw_aload_n (q := 26) mX2_stand dX2_stand_25 rfl rfl ?_
    refine aw_iload_n (q := 27) mX2_stand dX2_stand_26 rfl rfl ?_
    refine aw_if_le (tgt := 34) (q := 30) mX2_stand dX2_stand_27 rfl (by decide) (fun c_27 => ?_) (fun c_27 => ?_)
    · rw [if_neg (by omega)] at hTd
      refine aw_aload_n (q := 35) mX2_stand dX2_stand_34 rfl rfl ?_
      refine aw_get (t := 0) (ji := 8) (q := 38) mX2_stand dX2_stand_35 rfl f2_55 rfl hk_y rfl (rd_sn e_2 (Or.inl (by omega)) rfl) ?_
      have h9 := J μ_2 e_2 hl
      rw [hTd] at h9
      exact h9
    · rw [if_pos (by omega)] at hTd
      refine aw_iload_n (q := 31) mX2_stand dX2_stand_30 rfl rfl ?_
      refine aw_goto (q := 38) mX2_stand dX2_stand_31 (by decide) ?_
      have h9 := J μ_2 e_2 hl
      rw [hTd] at h9
      exact h9
  · exact absurd c_9 (by omega)

/-! the class's Edge in words of notes: choose, stand -/
theorem ed_mr_its {n : Nat} {μ m : am_M} (hC : Cb n μ) (hb : BE μ m) {T c : Int} : ∀ {rw : List Int}, (∀ k ∈ rw, 0 ≤ k ∧ k < μ 32 8) → (∀ k ∈ rw, μ (nf k) 11 = m 49 (m 34 k)) → (∀ p k, rw = p ++ [k] → T = mr_tall m c k true) → ed_its μ T (rw.map nf) = mr_its m c rw := by
  intro rw
  induction rw with
  | nil => intro _ _ _; rfl
  | cons k r ih =>
    intro hv ht hT
    obtain ⟨k0, k1⟩ := hv k List.mem_cons_self
    obtain ⟨-, m'⟩ := hC.2.2.2 k k0 k1
    obtain ⟨m0, m1, m2, m3, m5, m6, m7, m8, m9, -⟩ := m'
    have e1 : (ed_it μ T (nf k) (r.map nf).isEmpty).1 = mr_tall m c k r.isEmpty := by
      cases r with
      | nil => exact hT [] k rfl
      | cons a b =>
        show μ (nf k) 8 = mr_tall m c k false
        rw [mr_tall_tr hb]
        unfold mr_tall
        rw [if_pos (Or.inr rfl)]
        exact m8
    show ((ed_it μ T (nf k) (r.map nf).isEmpty).1, μ (nf k) 9, μ (nf k) 1, μ (nf k) 11) :: ed_its μ T (r.map nf) = (mr_tall m c k r.isEmpty, m 42 k, m 36 k, m 49 (m 34 k)) :: mr_its m c r
    rw [e1, m9, m1, ht k List.mem_cons_self, hb.2 42 k (by decide) (by decide), hb.2 36 k (by decide) (by decide), ih (fun z hz => hv z (List.mem_cons_of_mem _ hz)) (fun z hz => ht z (List.mem_cons_of_mem _ hz)) (fun p z hp => hT (k :: p) z (by rw [hp]; rfl))]
theorem rw_D_neg {m : am_M} {h g c k t : Int} {p : List Int} (hg : 0 ≤ g) (ht : 0 ≤ t ∧ t ≤ 400) (hn : mr_tall m c k true < 0) : ¬ rw_D h g (mr_its m c (p ++ [k])) t < rw_NV := by
  intro hd
  obtain ⟨xs, h1, -⟩ := rw_D_at hg ht.1 (by omega) hd
  have := rw_sd_last (rw_sd_of h1)
  omega
/-- the class's cost by the choice is the reference's -/
theorem ed_f_mr {n : Nat} {μ m : am_M} (hB : Bk μ) (hC : Cb n μ) (hb : BE μ m) {rest k c : Int} {p : List Int} (hv : ∀ z ∈ p ++ [k], 0 ≤ z ∧ z < μ 32 8) (ht : ∀ z ∈ p ++ [k], μ (nf z) 11 = m 49 (m 34 z)) (hr : 0 ≤ rest ∧ rest ≤ 380) (c0 : 0 ≤ c) (c1 : c < 1 + μ 41 k) : ed_f μ (md_top0 μ rest) ((p ++ [k]).map nf) (nf k) c = if 0 < c ∧ 0 ≤ μ 42 k then rw_NV else mr_cost m rest (p ++ [k]) c := by
  have hNV : rw_NV = 1000000000000 := rfl
  obtain ⟨-, ⟨-, -, c4, c5, c6, -⟩, -⟩ := id hC
  obtain ⟨k0, k1⟩ := hv k (by simp)
  obtain ⟨-, m'⟩ := hC.2.2.2 k k0 k1
  obtain ⟨m0, m1, m2, m3, m5, m6, m7, m8, m9, m10, mc⟩ := m'
  obtain ⟨-, n2, -, -, -, n6, n7, n8, n9, -, n11, n12⟩ := hB.2.2.2.2.2.2.2.2 k k0 k1
  have b2 := hB.2.1
  have htop : md_top0 m rest = md_top0 μ rest := md_top0_tr hb rest
  have htb : 0 ≤ md_top0 μ rest ∧ md_top0 μ rest ≤ 400 := by unfold md_top0; split <;> omega
  have huniq : ∀ {q z}, p ++ [k] = q ++ [z] → z = k := fun {q z} h => by
    have := (List.append_inj' h rfl).2
    simpa using this.symm
  have hcost : mr_cost m rest (p ++ [k]) c = if rw_NV ≤ rw_D (μ 32 2) (μ 32 3) (mr_its m c (p ++ [k])) (md_top0 μ rest) then rw_NV else rw_D (μ 32 2) (μ 32 3) (mr_its m c (p ++ [k])) (md_top0 μ rest) + if 0 < c then μ 32 4 else 0 := by
    unfold mr_cost
    rw [htop, hb.1 2 (by decide) (by decide), hb.1 3 (by decide) (by decide), hb.1 4 (by decide) (by decide), if_neg (by omega)]
  have hDle : ∀ its, rw_D (μ 32 2) (μ 32 3) its (md_top0 μ rest) ≤ rw_NV := fun its => rw_D_NV
  unfold ed_f
  by_cases hc : c ≤ 0
  · have hc0 : c = 0 := by omega
    rw [if_pos hc, if_neg (by omega), hcost, if_neg (show ¬ 0 < c by omega)]
    have hD : ed_D μ (md_top0 μ rest) (μ (nf k) 8) ((p ++ [k]).map nf) = rw_D (μ 32 2) (μ 32 3) (mr_its m c (p ++ [k])) (md_top0 μ rest) := by
      unfold ed_D
      rw [c4, c5, ed_mr_its hC hb (c := c) hv ht (fun q z hq => by
        rw [huniq hq, m8, mr_tall_tr hb]
        unfold mr_tall
        rw [if_pos (Or.inl hc0)])]
    rw [hD]
    have := hDle (mr_its m c (p ++ [k]))
    split <;> omega
  · rw [if_neg hc]
    have e1 := mc (c - 1) (by omega) (by omega)
    have hcb := n11 (c - 1) (by omega) (by omega)
    rw [show 3 * k + (c - 1) = 3 * k + c - 1 by omega] at e1 hcb
    rw [e1, m9, m0, c4, c6]
    by_cases hf : 0 ≤ μ 42 k
    · rw [if_neg (by omega), if_pos ⟨by omega, hf⟩]
    · rw [if_neg (show ¬ (0 < c ∧ 0 ≤ μ 42 k) from fun z => hf z.2), hcost, if_pos (show 0 < c by omega)]
      have hta : mr_tall m c k true = if μ 32 2 < μ 35 k - μ 44 (3 * k + c - 1) then -1 else μ 44 (3 * k + c - 1) := by
        rw [mr_tall_tr hb]
        unfold mr_tall
        rw [if_neg (by simp; omega)]
      by_cases hle : μ 35 k - μ 44 (3 * k + c - 1) ≤ μ 32 2
      · rw [if_pos ⟨by omega, hle⟩]
        rw [if_neg (by omega)] at hta
        have hD : ed_D μ (md_top0 μ rest) (μ 44 (3 * k + c - 1)) ((p ++ [k]).map nf) = rw_D (μ 32 2) (μ 32 3) (mr_its m c (p ++ [k])) (md_top0 μ rest) := by
          unfold ed_D
          rw [c4, c5, ed_mr_its hC hb (c := c) hv ht (fun q z hq => by rw [huniq hq, hta])]
        rw [hD]
        split <;> split <;> omega
      · rw [if_neg (fun z => hle z.2)]
        rw [if_pos (by omega)] at hta
        rw [if_pos (Int.not_lt.mp (rw_D_neg b2.1 htb (by rw [hta]; decide)))]
def cutOf (m : am_M) (rw : List Int) (c : Int) : Int := match rw.getLast? with
  | none => 0
  | some k => if c ≤ 0 then 0 else m 44 (3 * k + c - 1)
theorem cutOf_snoc {m : am_M} {p : List Int} {k c : Int} : cutOf m (p ++ [k]) c = if c ≤ 0 then 0 else m 44 (3 * k + c - 1) := by
  unfold cutOf
  rw [List.getLast?_append]
  rfl
theorem FM.cg {f g : Int → Int} {N v b : Int} (h : ∀ x, 0 ≤ x → x < N → f x = g x) (hF : FM f N v b) : FM g N v b := by
  rcases hF with ⟨h1, h2⟩ | ⟨h1, h2, h3, h4, h5, h6⟩
  · exact Or.inl ⟨h1, fun x x0 x1 => by rw [← h x x0 x1]; exact h2 x x0 x1⟩
  · exact Or.inr ⟨h1, h2, h3, by rw [← h b h2 h3]; exact h4, fun x x0 x1 => by rw [← h x x0 x1]; exact h5 x x0 x1, fun x x0 x1 => by rw [← h x x0 (by omega)]; exact h6 x x0 x1⟩
theorem FM.less {f : Int → Int} {N M v b : Int} (hM : M ≤ N) (hM0 : 0 ≤ M) (h : ∀ x, M ≤ x → x < N → rw_NV ≤ f x) (hF : FM f N v b) : FM f M v b := by
  rcases hF with ⟨h1, h2⟩ | ⟨h1, h2, h3, h4, h5, h6⟩
  · exact Or.inl ⟨h1, fun x x0 x1 => h2 x x0 (by omega)⟩
  · refine Or.inr ⟨h1, h2, ?_, h4, fun x x0 x1 => h5 x x0 (by omega), h6⟩
    rcases Int.lt_or_le b M with q | q
    · exact q
    · have := h b q h3; omega
theorem pX2_ch (n : Nat) (μ m : am_M) (e rest lim : Int) (rw : List Int) (he : e = 18 ∨ e = 25) (hl0 : Lay n μ) (hB : Bk μ) (hC : Cb n μ) (hb : BE μ m) (hv : ∀ k ∈ rw, 0 ≤ k ∧ k < μ 32 8) (hr : 0 ≤ rest ∧ rest ≤ 380) (hE : Ew n μ e (md_top0 μ rest) (rw.map nf)) (ht : ∀ k ∈ rw, μ (nf k) 11 = m 49 (m 34 k)) (htb : ∀ k ∈ rw, 0 ≤ m 49 (m 34 k) ∧ m 49 (m 34 k) ≤ 400) (hlim : 0 ≤ lim ∧ lim ≤ 100000000) : AC 27 [(2, e), (0, lim)] n μ (PI n (fun x μ' => Of (Sv e) μ μ' ∧ x = min (md_sc m rest rw) lim ∧ (md_sc m rest rw < lim → ∃ c, md_best m rest rw c ∧ μ' e 12 = cutOf m rw c))) := by
  have hNV : rw_NV = 1000000000000 := rfl
  have hBm : Bk m := hB.tr hb
  have hvm : ∀ k ∈ rw, 0 ≤ k ∧ k < m 32 8 := fun k hk => by rw [hb.1 8 (by decide) (by decide)]; exact hv k hk
  have htp : Ntp μ (rw.map nf) := fun x hx => by
    obtain ⟨k, k1, k2⟩ := List.mem_map.mp hx
    rw [← k2, ht k k1]
    exact htb k k1
  refine AW.mono (pX2_choose n μ e (md_top0 μ rest) lim (rw.map nf) he hl0 (hC.bc hB) hE htp hlim) ?_
  rintro q n' μ' ⟨x, h1, h2, h3, h4⟩
  refine ⟨x, h1, h2, h3, ?_⟩
  rcases h4 with ⟨h5, h6, h7⟩ | ⟨p', y, v, b, h5, h6, h7, h8⟩
  · have hrw : rw = [] := by simpa using h5
    rw [hrw]
    have hcost : mr_cost m rest [] 0 = 0 := by
      unfold mr_cost
      rw [if_neg (by simp)]
      show (if rw_NV ≤ (0 : Int) then rw_NV else (0 : Int) + if (0 : Int) < 0 then m 32 4 else 0) = 0
      rw [if_neg (by omega), if_neg (by omega)]
      rfl
    have hF0 : FM (mr_cost m rest []) (mr_ch m []) 0 0 := by
      have := FM.zero.take (f := mr_cost m rest []) (b := 0) (by omega) (by rw [hcost]; omega)
      rw [hcost] at this
      exact this
    have hsc : (0 : Int) = md_sc m rest [] := md_sc_b hBm (fun k hk => by simp at hk) hF0
    refine ⟨by rw [← hsc, h6]; omega, fun _ => ⟨0, ?_, by rw [h7]; rfl⟩⟩
    unfold md_best
    rw [← hsc]
    exact hF0
  · rcases List.eq_nil_or_concat rw with hp | ⟨p, k, hp⟩
    · rw [hp] at h5; cases p' <;> cases h5
    rw [List.concat_eq_append] at hp
    have hy : y = nf k := by
      rw [hp, List.map_append] at h5
      have := (List.append_inj' h5 rfl).2
      simpa using this.symm
    subst hy
    obtain ⟨k0, k1⟩ := hv k (by rw [hp]; simp)
    obtain ⟨-, m'⟩ := hC.2.2.2 k k0 k1
    obtain ⟨m0, m1, m2, m3, m5, m6, m7, m8, m9, m10, mc⟩ := m'
    obtain ⟨-, n2, -, -, -, n6, n7, n8, n9, -, n11, n12⟩ := hB.2.2.2.2.2.2.2.2 k k0 k1
    rw [m5] at h6
    rw [hp] at h6 hv ht
    have hF1 := h6.cg (g := fun c => if 0 < c ∧ 0 ≤ μ 42 k then rw_NV else mr_cost m rest (p ++ [k]) c) (fun c c0 c1 => ed_f_mr hB hC hb hv ht hr c0 c1)
    have hch : mr_ch m (p ++ [k]) = if 0 ≤ μ 42 k then 1 else 1 + μ 41 k := by rw [mr_ch_tr hb]; exact mr_ch_snoc
    have hF2 : FM (mr_cost m rest (p ++ [k])) (mr_ch m (p ++ [k])) v b := by
      rw [hch]
      by_cases hf : 0 ≤ μ 42 k
      · rw [if_pos hf]
        have h9 := hF1.less (M := 1) (by omega) (by omega) (fun c c0 c1 => by
          show rw_NV ≤ if 0 < c ∧ 0 ≤ μ 42 k then rw_NV else _
          rw [if_pos ⟨by omega, hf⟩]
          exact Int.le_refl _)
        exact h9.cg (fun c c0 c1 => by
          show (if 0 < c ∧ 0 ≤ μ 42 k then rw_NV else _) = _
          rw [if_neg (by omega)])
      · rw [if_neg hf]
        exact hF1.cg (fun c c0 c1 => by
          show (if 0 < c ∧ 0 ≤ μ 42 k then rw_NV else _) = _
          rw [if_neg (fun z => hf z.2)])
    have hsc : v = md_sc m rest (p ++ [k]) := md_sc_b hBm (fun z hz => by rw [hb.1 8 (by decide) (by decide)]; exact hv z hz) hF2
    rw [hp, ← hsc]
    refine ⟨h7, fun hlt => ⟨b, ?_, ?_⟩⟩
    · unfold md_best
      rw [← hsc]
      exact hF2
    · rw [h8 hlt, cutOf_snoc]
      unfold ed_cut
      by_cases hb0 : b ≤ 0
      · rw [if_pos hb0, if_pos hb0]
      · rw [if_neg hb0, if_neg hb0]
        obtain ⟨f1, f2, f3⟩ := h6.fin (by omega)
        rw [mc (b - 1) (by omega) (by omega), hb.2 44 _ (by decide) (by decide), show 3 * k + (b - 1) = 3 * k + b - 1 by omega]
/-- what stands of the notes -/
def Pc (μ' m : am_M) (s c : Int) (rw xs : List Int) : Prop := ∀ (i : Nat) (k x : Int), rw[i]? = some k → xs[i]? = some x → μ' (nf k) 12 = s ∧ μ' (nf k) 13 = x ∧ μ' (nf k) 14 = m 35 k + m 40 k - mr_tall m c k (decide (i + 1 = rw.length))
theorem nf_nodup : ∀ {l : List Int}, l.Nodup → (l.map nf).Nodup := by
  intro l
  induction l with
  | nil => intro _; exact List.nodup_nil
  | cons a l ih =>
    intro h
    rw [List.nodup_cons] at h
    rw [List.map_cons, List.nodup_cons]
    refine ⟨fun z => ?_, ih h.2⟩
    obtain ⟨b, b1, b2⟩ := List.mem_map.mp z
    rw [nf_inj b2] at b1
    exact h.1 b1
theorem pX2_st (n : Nat) (μ m : am_M) (e rest c : Int) (rw : List Int) (he : e = 18 ∨ e = 25) (hl0 : Lay n μ) (hB : Bk μ) (hC : Cb n μ) (hb : BE μ m) (hv : ∀ k ∈ rw, 0 ≤ k ∧ k < μ 32 8) (hnd : rw.Nodup) (hr : 0 ≤ rest ∧ rest ≤ 380) (hE : Ew n μ e (md_top0 μ rest) (rw.map nf)) (ht : ∀ k ∈ rw, μ (nf k) 11 = m 49 (m 34 k)) (htb : ∀ k ∈ rw, 0 ≤ m 49 (m 34 k) ∧ m 49 (m 34 k) ≤ 400) (hbest : md_best m rest rw c) (hfin : md_sc m rest rw < rw_NV) : AC 28 [(2, e), (0, cutOf m rw c)] n μ (PV n (fun μ' => Of (St e (rw.map nf)) μ μ' ∧ ∃ xs, rw_gr (m 32 2) (m 32 3) (md_top0 m rest) (mr_its m c rw) xs ∧ Pc μ' m (μ e 1) c rw xs ∧ μ' e 11 = mr_carry m c rw)) := by
  have hNV : rw_NV = 1000000000000 := rfl
  obtain ⟨-, ⟨-, -, c4, c5, c6, -⟩, -⟩ := id hC
  have hBm : Bk m := hB.tr hb
  have htp : Ntp μ (rw.map nf) := fun x hx => by
    obtain ⟨k, k1, k2⟩ := List.mem_map.mp hx
    rw [← k2, ht k k1]
    exact htb k k1
  have hndm : (rw.map nf).Nodup := nf_nodup hnd
  rcases List.eq_nil_or_concat rw with hp | ⟨p, k, hp⟩
  · have hcut : cutOf m rw c = 0 := by rw [hp]; rfl
    rw [hcut]
    refine AW.mono (pX2_stand n μ e (md_top0 μ rest) 0 (rw.map nf) he hl0 (hC.bc hB) hE htp hndm (by omega) (fun p y h => by rw [hp] at h; cases p <;> cases h)) ?_
    rintro q n' μ' ⟨h1, h2, h3, h4⟩
    refine ⟨h1, h2, h3, [], ?_, ?_, ?_⟩
    · rw [hp]; trivial
    · intro i k x hk hx; simp at hx
    · rcases h4 with ⟨-, h5⟩ | ⟨p', y, xs, h5, -⟩
      · rw [h5, hp]; rfl
      · rw [hp] at h5; cases p' <;> cases h5
  rw [List.concat_eq_append] at hp
  obtain ⟨k0, k1⟩ := hv k (by rw [hp]; simp)
  obtain ⟨-, m'⟩ := hC.2.2.2 k k0 k1
  obtain ⟨m0, m1, m2, m3, m5, m6, m7, m8, m9, m10, mc⟩ := m'
  obtain ⟨-, n2, -, -, -, n6, n7, n8, n9, -, n11, n12⟩ := hB.2.2.2.2.2.2.2.2 k k0 k1
  obtain ⟨f1, f2, f3⟩ := FM.fin hbest hfin
  have hcostfin : mr_cost m rest rw c < rw_NV := by rw [f3]; exact hfin
  obtain ⟨hD, hsd⟩ := mr_cost_sd hBm hr.1 hcostfin
  obtain ⟨-, hD⟩ := hD (by rw [hp]; simp)
  have htpos : 0 ≤ mr_tall m c k true := by rw [hp] at hsd; exact rw_sd_last hsd
  have hch : mr_ch m rw = if 0 ≤ μ 42 k then 1 else 1 + μ 41 k := by rw [mr_ch_tr hb, hp]; exact mr_ch_snoc
  obtain ⟨cut, hcut⟩ : ∃ z, z = cutOf m rw c := ⟨_, rfl⟩
  have hcut2 : cut = if c ≤ 0 then 0 else μ 44 (3 * k + c - 1) := by rw [hcut, hp, cutOf_snoc, hb.2 44 _ (by decide) (by decide)]
  -- the tall that the cut leaves
  have hT : 0 ≤ cut ∧ cut < μ 35 k ∧ (if 0 < cut then cut else μ (nf k) 8) = mr_tall m c k true ∧ (if 0 < cut then μ (nf k) 0 - cut else 0) = m 35 k + m 40 k - mr_tall m c k true := by
    rw [mr_tall_tr hb, hb.2 35 k (by decide) (by decide), hb.2 40 k (by decide) (by decide)]
    rw [mr_tall_tr hb] at htpos
    by_cases hc : c ≤ 0
    · have hc0 : c = 0 := by omega
      rw [if_pos hc] at hcut2
      have : mr_tall μ c k true = μ 35 k + μ 40 k := by unfold mr_tall; rw [if_pos (Or.inl hc0)]
      rw [this, if_neg (by omega), if_neg (by omega), m8]
      omega
    · rw [if_neg hc] at hcut2
      rw [hch] at f2
      have hnf : ¬ 0 ≤ μ 42 k := fun z => by rw [if_pos z] at f2; omega
      rw [if_neg hnf] at f2
      have hcb := n11 (c - 1) (by omega) (by omega)
      rw [show 3 * k + (c - 1) = 3 * k + c - 1 by omega, ← hcut2] at hcb
      have hta : mr_tall μ c k true = if μ 32 2 < μ 35 k - cut then -1 else cut := by
        unfold mr_tall
        rw [if_neg (by simp; omega), ← hcut2]
      have hle : ¬ μ 32 2 < μ 35 k - cut := fun z => by rw [hta, if_pos z] at htpos; omega
      rw [if_neg hle] at hta
      rw [hta, if_pos (by omega), if_pos (by omega), m0]
      have h40 : μ 40 k = 0 := by
        have : ¬ 0 < μ 39 k := fun z => by have := n12 z; omega
        omega
      omega
  obtain ⟨t1, t2, t3, t4⟩ := hT
  have huniq : ∀ {q z}, rw = q ++ [z] → z = k := fun {q z} h => by
    rw [hp] at h
    have := (List.append_inj' h rfl).2
    simpa using this.symm
  have hits : ed_its μ (mr_tall m c k true) (rw.map nf) = mr_its m c rw := ed_mr_its hC hb hv ht (fun q z hq => by rw [huniq hq])
  have hlast : ∀ {p' y}, rw.map nf = p' ++ [y] → y = nf k := fun {p' y} h => by
    rw [hp, List.map_append] at h
    have := (List.append_inj' h rfl).2
    simpa using this.symm
  rw [← hcut]
  refine AW.mono (pX2_stand n μ e (md_top0 μ rest) cut (rw.map nf) he hl0 (hC.bc hB) hE htp hndm t1 (fun p' y h => by
    rw [hlast h, m0]
    refine ⟨t2, ?_⟩
    rw [t3]
    unfold ed_D
    rw [hits, c4, c5, ← md_top0_tr hb, ← hb.1 2 (by decide) (by decide), ← hb.1 3 (by decide) (by decide)]
    exact hD)) ?_
  rintro q n' μ' ⟨h1, h2, h3, h4⟩
  refine ⟨h1, h2, h3, ?_⟩
  rcases h4 with ⟨h5, -⟩ | ⟨p', y, xs, h5, h6, h7, h8⟩
  · rw [hp] at h5; simp at h5
  have hy := hlast h5
  subst hy
  rw [t3, hits, c4, c5, ← hb.1 2 (by decide) (by decide), ← hb.1 3 (by decide) (by decide), ← md_top0_tr hb] at h6
  rw [t4] at h7 h8
  refine ⟨xs, h6, fun i z x hz hx => ?_, ?_⟩
  · obtain ⟨g1, g2, g3⟩ := h7 i (nf z) x (by rw [List.getElem?_map, hz]; rfl) hx
    refine ⟨g1, g2, ?_⟩
    rw [g3, List.length_map]
    by_cases hi : i + 1 = rw.length
    · have hzk : z = k := by
        have e1 : i = p.length := by rw [hp] at hi; simp at hi; exact hi
        rw [hp, e1] at hz
        simpa using hz.symm
      rw [if_pos hi, decide_eq_true hi, hzk]
    · rw [if_neg hi, decide_eq_false hi]
      unfold mr_tall
      rw [if_pos (Or.inr rfl)]
      omega
  · rw [h8, hp]
    unfold mr_carry
    rw [List.getLast?_append]
    rfl

/-- the least of f below N, and where first -/
def mq_v (f : Int → Int) : Nat → Int
  | 0 => rw_NV
  | N + 1 => if f (N : Int) < mq_v f N then f (N : Int) else mq_v f N
def mq_b (f : Int → Int) : Nat → Int
  | 0 => 0
  | N + 1 => if f (N : Int) < mq_v f N then (N : Int) else mq_b f N
theorem fm_is (f : Int → Int) : ∀ N : Nat, FM f (N : Int) (mq_v f N) (mq_b f N) := by
  intro N
  induction N with
  | zero => exact FM.zero
  | succ N ih =>
    show FM f ((N : Int) + 1) (if _ then _ else _) (if _ then _ else _)
    by_cases h : f (N : Int) < mq_v f N
    · rw [if_pos h, if_pos h]; exact ih.take (by omega) h
    · rw [if_neg h, if_neg h]; exact ih.skip h
theorem FM.v {f : Int → Int} {N : Int} {v b : Int} (h0 : 0 ≤ N) (h : FM f N v b) : v = mq_v f N.toNat := by
  have h1 := fm_is f N.toNat
  rw [show ((N.toNat : Nat) : Int) = N by omega] at h1
  exact (h.uniq h1).1
theorem FM.le {f : Int → Int} {N v b x : Int} (h : FM f N v b) (h0 : 0 ≤ x) (h1 : x < N) (hv : f x < rw_NV) : v < rw_NV ∧ v ≤ f x := by
  rcases h with ⟨k1, k2⟩ | ⟨k1, k2, k3, k4, k5, k6⟩
  · have := k2 x h0 h1; omega
  · exact ⟨k1, k5 x h0 h1⟩
theorem FM.fin {f : Int → Int} {N v b : Int} (h : FM f N v b) (hv : v < rw_NV) : 0 ≤ b ∧ b < N ∧ f b = v := by
  rcases h with ⟨k1, k2⟩ | ⟨k1, k2, k3, k4, k5, k6⟩
  · omega
  · exact ⟨k2, k3, k4⟩
def md_sc (μ : am_M) (rest : Int) (rw : List Int) : Int := mq_v (mr_cost μ rest rw) (mr_ch μ rw).toNat
def md_best (μ : am_M) (rest : Int) (rw : List Int) (c : Int) : Prop := FM (mr_cost μ rest rw) (mr_ch μ rw) (md_sc μ rest rw) c
def md_add (s l : Int) : Int := if rw_NV ≤ l ∨ rw_NV ≤ s then rw_NV else s + l
def md_rw (μ : am_M) (s bits : Int) (H : List Int) : List Int := md_ro s H (md_sds μ bits (md_ei μ H) H)
def md_dc (μ : am_M) (a b : Int) (H : List Int) (bits : Int) : Int := md_add (md_add 0 (md_sc μ a (md_rw μ 0 bits H))) (md_sc μ b (md_rw μ 1 bits H))
theorem md_add_lt {s l : Int} (h : md_add s l < rw_NV) : l < rw_NV ∧ s < rw_NV ∧ md_add s l = s + l := by
  unfold md_add at h ⊢
  split at h
  · omega
  · rename_i hn
    rw [if_neg hn]
    exact ⟨by omega, by omega, rfl⟩
theorem mr_ch_pos {μ : am_M} (hB : Bk μ) {rw : List Int} (hv : ∀ k ∈ rw, 0 ≤ k ∧ k < μ 32 8) : 1 ≤ mr_ch μ rw ∧ mr_ch μ rw ≤ 4 := by
  unfold mr_ch
  split
  · omega
  · rename_i k hk
    have h1 := hv k (List.mem_of_getLast? hk)
    obtain ⟨-, -, -, -, -, -, -, n8, -⟩ := hB.2.2.2.2.2.2.2.2 _ h1.1 h1.2
    split <;> omega
theorem mr_tall_b {μ : am_M} (hB : Bk μ) {k c : Int} {la : Bool} (hk : 0 ≤ k ∧ k < μ 32 8) (hc0 : 0 ≤ c) (hc1 : la = true → c < 1 + μ 41 k) : -1 ≤ mr_tall μ c k la ∧ mr_tall μ c k la ≤ μ 35 k + μ 40 k ∧ μ 35 k + μ 40 k ≤ 500 := by
  obtain ⟨-, n2, -, -, -, n6, n7, n8, -, -, n11, -⟩ := hB.2.2.2.2.2.2.2.2 _ hk.1 hk.2
  unfold mr_tall
  split
  · omega
  · rename_i hn
    have hla : la = true := by cases la <;> simp_all
    have h9 := n11 (c - 1) (by omega) (by have := hc1 hla; omega)
    rw [show 3 * k + (c - 1) = 3 * k + c - 1 by omega] at h9
    split <;> omega
/-- a choice that the row's end has -/
def mr_cin (μ : am_M) (rw : List Int) (c : Int) : Prop := 0 ≤ c ∧ c < mr_ch μ rw
theorem mr_its_ok {μ : am_M} (hB : Bk μ) {c : Int} : ∀ {rw : List Int}, 0 ≤ c → c < mr_ch μ rw → (∀ k ∈ rw, 0 ≤ k ∧ k < μ 32 8) → (∀ k ∈ rw, 0 ≤ μ 49 (μ 34 k) ∧ μ 49 (μ 34 k) ≤ 400) → ∀ it ∈ mr_its μ c rw, rw_ok it := by
  intro rw
  induction rw with
  | nil => intro _ _ _ _ it hit; exact absurd hit (by unfold mr_its; simp)
  | cons k r ih =>
    intro hc0 hc1 hv ht it hit
    have hk := hv k (List.mem_cons_self)
    have htk := ht k (List.mem_cons_self)
    obtain ⟨-, n2, n3, -, -, n6, n7, n8, n9, -, n11, -⟩ := hB.2.2.2.2.2.2.2.2 _ hk.1 hk.2
    unfold mr_its at hit
    rcases List.mem_cons.mp hit with e | e
    · rw [e]
      have hb := mr_tall_b hB (c := c) (la := r.isEmpty) hk hc0 (fun he => by
        have hr : r = [] := List.isEmpty_iff.mp he
        rw [hr] at hc1
        unfold mr_ch at hc1
        simp only [List.getLast?_singleton] at hc1
        split at hc1 <;> omega)
      refine ⟨?_, n9.2, n3.1, n3.2, htk.1, htk.2⟩
      show mr_tall μ c k r.isEmpty ≤ 600
      omega
    · refine ih hc0 ?_ (fun k hk => hv k (List.mem_cons_of_mem _ hk)) (fun k hk => ht k (List.mem_cons_of_mem _ hk)) it e
      cases r with
      | nil => exact absurd e (by unfold mr_its; simp)
      | cons k2 r2 =>
        have : mr_ch μ (k :: k2 :: r2) = mr_ch μ (k2 :: r2) := by
          unfold mr_ch
          rw [List.getLast?_cons_cons]
        rw [← this]; exact hc1
theorem mr_its_len {μ : am_M} {c : Int} : ∀ {rw : List Int}, (mr_its μ c rw).length = rw.length := by
  intro rw
  induction rw with
  | nil => rfl
  | cons k r ih => unfold mr_its; simp only [List.length_cons, ih]
theorem mr_cost_of_sd {μ : am_M} (hB : Bk μ) {rest c : Int} {rw : List Int} (hc0 : 0 ≤ c) (hc1 : c < mr_ch μ rw) (hv : ∀ k ∈ rw, 0 ≤ k ∧ k < μ 32 8) (ht : ∀ k ∈ rw, 0 ≤ μ 49 (μ 34 k) ∧ μ 49 (μ 34 k) ≤ 400) (hl : rw.length ≤ 24) (hr0 : 0 ≤ rest) (hs : rw_sd (μ 32 2) (μ 32 3) (md_top0 μ rest) (mr_its μ c rw)) : mr_cost μ rest rw c < rw_NV := by
  have hNV : rw_NV = 1000000000000 := rfl
  obtain ⟨b1, b2, b3, -⟩ := id hB
  have ht0 : 0 ≤ md_top0 μ rest := by unfold md_top0; split <;> omega
  have hok := mr_its_ok hB hc0 hc1 hv ht
  obtain ⟨xs, hxs⟩ := rw_sd_at hs
  have hlen : ((mr_its μ c rw).length : Int) ≤ 24 := by rw [mr_its_len]; omega
  have hD := rw_D_le b2.1 b1.2 hok hlen ht0 hxs
  have hz : rw ≠ [] → md_top0 μ rest ≤ 400 := by
    intro hne
    cases rw with
    | nil => exact absurd rfl hne
    | cons k r =>
      unfold mr_its at hxs
      cases xs with
      | nil => exact absurd hxs (by unfold rw_fe; exact id)
      | cons x ys =>
        unfold rw_fe at hxs
        obtain ⟨h1, h2, h3, -⟩ := hxs
        simp only at h1 h2 h3
        omega
  unfold mr_cost
  rw [if_neg (fun h => absurd (hz h.1) (by omega)), if_neg (by omega)]
  by_cases hne : rw = []
  · rw [hne]
    show (0 : Int) + _ < _
    split <;> omega
  · have h9 := rw_D_b (h := μ 32 2) b2.1 hok ht0 (by have := hz hne; omega) hD.2
    split <;> omega
theorem mr_cost_sd {μ : am_M} (hB : Bk μ) {rest c : Int} {rw : List Int} (hr0 : 0 ≤ rest) (h : mr_cost μ rest rw c < rw_NV) : (rw ≠ [] → md_top0 μ rest ≤ 400 ∧ rw_D (μ 32 2) (μ 32 3) (mr_its μ c rw) (md_top0 μ rest) < rw_NV) ∧ rw_sd (μ 32 2) (μ 32 3) (md_top0 μ rest) (mr_its μ c rw) := by
  obtain ⟨b1, b2, b3, -⟩ := id hB
  have ht0 : 0 ≤ md_top0 μ rest := by unfold md_top0; split <;> omega
  have h1 : rw ≠ [] → md_top0 μ rest ≤ 400 ∧ rw_D (μ 32 2) (μ 32 3) (mr_its μ c rw) (md_top0 μ rest) < rw_NV := by
    intro hne
    unfold mr_cost at h
    split at h
    · omega
    · rename_i hn
      split at h
      · omega
      · refine ⟨?_, by omega⟩
        have : ¬ 400 < md_top0 μ rest := fun z => hn ⟨hne, z⟩
        omega
  refine ⟨h1, ?_⟩
  by_cases hne : rw = []
  · rw [hne]; exact trivial
  · have h2 := h1 hne
    obtain ⟨xs, hxs, -⟩ := rw_D_at b2.1 ht0 (by omega) h2.2
    exact rw_sd_of hxs
theorem mr_can_iff {μ : am_M} (hB : Bk μ) {rest : Int} {rw : List Int} (hv : ∀ k ∈ rw, 0 ≤ k ∧ k < μ 32 8) (ht : ∀ k ∈ rw, 0 ≤ μ 49 (μ 34 k) ∧ μ 49 (μ 34 k) ≤ 400) (hl : rw.length ≤ 24) (hr0 : 0 ≤ rest) : mr_can μ rest rw ↔ md_sc μ rest rw < rw_NV := by
  have hc := mr_ch_pos hB hv
  have hF := fm_is (mr_cost μ rest rw) (mr_ch μ rw).toNat
  rw [show (((mr_ch μ rw).toNat : Nat) : Int) = mr_ch μ rw by omega] at hF
  constructor
  · rintro ⟨c, h0, h1, h2⟩
    exact (hF.le h0 h1 (mr_cost_of_sd hB h0 h1 hv ht hl hr0 h2)).1
  · intro h
    obtain ⟨k1, k2, k3⟩ := hF.fin h
    refine ⟨_, k1, k2, (mr_cost_sd hB hr0 (rest := rest) (c := mq_b (mr_cost μ rest rw) (mr_ch μ rw).toNat) ?_).2⟩
    rw [k3]; exact h
theorem md_ro_disj {H : List Int} : ∀ {q : List Int} {k : Int}, H.Nodup → k ∈ md_ro 0 H q → k ∈ md_ro 1 H q → False := by
  induction H with
  | nil => intro q k _ h _; unfold md_ro at h; simp at h
  | cons x r ih =>
    intro q k hnd h0 h1
    cases q with
    | nil => unfold md_ro at h0; simp at h0
    | cons y q =>
      have hx : x ∉ r := (List.nodup_cons.mp hnd).1
      have hr := (List.nodup_cons.mp hnd).2
      unfold md_ro at h0 h1
      by_cases e0 : y = 0
      · rw [if_pos e0] at h0
        rw [if_neg (by omega)] at h1
        rcases List.mem_cons.mp h0 with e | e
        · rw [e] at h1; exact hx (md_ro_mem h1)
        · exact ih hr e h1
      · rw [if_neg e0] at h0
        by_cases e1 : y = 1
        · rw [if_pos e1] at h1
          rcases List.mem_cons.mp h1 with e | e
          · rw [e] at h0; exact hx (md_ro_mem h0)
          · exact ih hr h0 e
        · rw [if_neg e1] at h1; exact ih hr h0 h1
theorem md_nt_nodup {μ : am_M} {l : Int} : ∀ m : Nat, (md_nt μ l m).Nodup := by
  intro m
  induction m with
  | zero => exact List.nodup_nil
  | succ m ih =>
    unfold md_nt
    refine List.nodup_append.mpr ⟨ih, ?_, ?_⟩
    · split <;> simp
    · intro a ha b hb e
      have h1 := md_nt_mem ha
      split at hb
      · have := List.mem_singleton.mp hb; omega
      · simp at hb
theorem md_hr_nodup {μ : am_M} {fr : Int} : ∀ m : Nat, (md_hr μ fr m).Nodup := by
  intro m
  induction m with
  | zero => exact List.nodup_nil
  | succ m ih =>
    unfold md_hr
    refine List.nodup_append.mpr ⟨ih, md_nt_nodup _, ?_⟩
    intro a ha b hb e
    have h1 := md_hr_mem ha
    have h2 := md_nt_mem hb
    rw [← e] at h2
    omega

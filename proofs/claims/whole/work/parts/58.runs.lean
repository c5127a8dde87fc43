/-! the class's Breaks: countRuns -/
/-- one that is not the last of its side has its whole tall -/
theorem PgR_full {m : am_M} {p : Int} (hB : Bk m) (hR : PgR m p) {pre suf : List Int} {k k' s : Int} (hH : md_hr m (m 45 p) (m 46 p).toNat = pre ++ k :: suf) (hk : m 51 k = s) (hk' : k' ∈ suf) (hs' : m 51 k' = s) (hs : s = 0 ∨ s = 1) : m 53 k = m 35 k + m 40 k := by
  obtain ⟨-, -, -, -, -, bits, c0, c1, xs0, xs1, -, -, -, -, w5, w6, w7, w8, -⟩ := hR
  obtain ⟨H, hHe⟩ : ∃ H, H = md_hr m (m 45 p) (m 46 p).toNat := ⟨_, rfl⟩
  have hnd : H.Nodup := by rw [hHe]; exact md_hr_nodup _
  have hv : ∀ z ∈ H, 0 ≤ m 37 z := fun z hz => by
    rw [hHe] at hz
    have := md_hr_mem hz
    exact (hB.2.2.2.2.2.2.2.2 z this.1 (by omega)).2.2.2.1.1
  rw [← hHe] at w5 w6 w7 w8 hH
  have hl0 : xs0.length = (md_rw m 0 bits H).length := by rw [rw_gr_len w5, mr_its_len]
  have hl1 : xs1.length = (md_rw m 1 bits H).length := by rw [rw_gr_len w7, mr_its_len]
  have h51 : ∀ t z, (t = 0 ∨ t = 1) → z ∈ md_rw m t bits H → m 51 z = t := by
    intro t z ht hz
    obtain ⟨i, hi⟩ := List.getElem?_of_mem hz
    have hi2 := (List.getElem?_eq_some_iff.mp hi).1
    rcases ht with rfl | rfl
    · exact (w6 i z xs0[i] hi (by simp [hl0, hi2])).1
    · exact (w8 i z xs1[i] hi (by simp [hl1, hi2])).1
  have hin : ∀ z ∈ H, m 51 z = s → z ∈ md_rw m s bits H := by
    intro z hz h
    rcases md_rw_cover (bits := bits) hv hz with h0 | h0
    · have := h51 0 z (Or.inl rfl) h0
      rw [show s = 0 by omega]; exact h0
    · have := h51 1 z (Or.inr rfl) h0
      rw [show s = 1 by omega]; exact h0
  obtain ⟨sd, hsd⟩ : ∃ sd, sd = md_sds m bits (md_ei m H) H := ⟨_, rfl⟩
  have hsl : sd.length = H.length := by rw [hsd]; exact md_sds_len
  have hHl : H.length = pre.length + suf.length + 1 := by rw [hH]; simp; omega
  obtain ⟨q1, y, q2, hq, hq1, hq2⟩ : ∃ q1 y q2, sd = q1 ++ y :: q2 ∧ q1.length = pre.length ∧ q2.length = suf.length := by
    have hlt : pre.length < sd.length := by omega
    refine ⟨sd.take pre.length, sd[pre.length], sd.drop (pre.length + 1), ?_, ?_, ?_⟩
    · rw [List.getElem_cons_drop, List.take_append_drop]
    · rw [List.length_take]; omega
    · rw [List.length_drop]; omega
  have hrw : md_rw m s bits H = md_ro s pre q1 ++ md_ro s (k :: suf) (y :: q2) := by
    show md_ro s H (md_sds m bits (md_ei m H) H) = _
    rw [← hsd, hq]
    conv => lhs; rw [hH]
    exact md_ro_app hq1
  have hnd2 := hnd
  rw [hH] at hnd2
  have hknp : k ∉ pre := fun z => (List.nodup_append.mp hnd2).2.2 k z k List.mem_cons_self rfl
  have hnks := (List.nodup_cons.mp (List.nodup_append.mp hnd2).2.1).1
  have hknpre' : k' ∉ pre := fun z => (List.nodup_append.mp hnd2).2.2 k' z k' (List.mem_cons_of_mem _ hk') rfl
  have hkk : k ≠ k' := fun z => hnks (by rw [z]; exact hk')
  have hkr := hin k (by rw [hH]; simp) hk
  have hkr' := hin k' (by rw [hH]; simp [hk']) hs'
  have hy : y = s := by
    by_cases hys : y = s
    · exact hys
    · exfalso
      rw [hrw] at hkr
      rcases List.mem_append.mp hkr with h | h
      · exact hknp (md_ro_mem h)
      · unfold md_ro at h
        rw [if_neg hys] at h
        exact hnks (md_ro_mem h)
  have hrw2 : md_rw m s bits H = md_ro s pre q1 ++ k :: md_ro s suf q2 := by
    rw [hrw]
    show _ ++ (if y = s then _ else _) = _
    rw [if_pos hy]
  have hkq : k' ∈ md_ro s suf q2 := by
    rw [hrw2] at hkr'
    rcases List.mem_append.mp hkr' with h | h
    · exact absurd (md_ro_mem h) hknpre'
    · rcases List.mem_cons.mp h with h | h
      · exact absurd h.symm hkk
      · exact h
  have hpos : 0 < (md_ro s suf q2).length := List.length_pos_iff.mpr (List.ne_nil_of_mem hkq)
  have hi : (md_rw m s bits H)[(md_ro s pre q1).length]? = some k := by rw [hrw2]; simp
  have hlen : (md_rw m s bits H).length = (md_ro s pre q1).length + (md_ro s suf q2).length + 1 := by rw [hrw2]; simp; omega
  have fin : ∀ c (xs : List Int), xs.length = (md_rw m s bits H).length → Pq m m p s c (md_rw m s bits H) xs → m 53 k = m 35 k + m 40 k := by
    intro c xs hxl hPq
    have hix : (md_ro s pre q1).length < xs.length := by omega
    have := (hPq _ k xs[(md_ro s pre q1).length] hi (by simp [hix])).2.2.1
    rw [this, decide_eq_false (by omega)]
    unfold mr_tall
    rw [if_pos (Or.inr rfl)]
  rcases hs with rfl | rfl
  · exact fin c0 xs0 hl0 w6
  · exact fin c1 xs1 hl1 w8
def md_rc (m : am_M) (s g : Int) : Int → List Int → Int
  | _, [] => 0
  | near, k :: r => if m 51 k = s then (if m 52 k = near then 0 else 1) + md_rc m s g (m 52 k + (m 35 k + m 40 k) + g) r else md_rc m s g near r
theorem md_rc_none {m : am_M} {s g : Int} : ∀ {l : List Int} {near : Int}, (∀ k ∈ l, m 51 k ≠ s) → md_rc m s g near l = 0 ∧ md_rn m s g near l = 0 := by
  intro l
  induction l with
  | nil => intro near _; exact ⟨rfl, rfl⟩
  | cons k r ih =>
    intro near h
    have h1 := ih (near := near) (fun z hz => h z (List.mem_cons_of_mem _ hz))
    unfold md_rc md_rn
    rw [if_neg (h k List.mem_cons_self), if_neg (h k List.mem_cons_self)]
    exact h1
theorem md_rc_eq {m : am_M} {p s g : Int} (hB : Bk m) (hR : PgR m p) (hs : s = 0 ∨ s = 1) : ∀ {suf pre : List Int} {near : Int}, md_hr m (m 45 p) (m 46 p).toNat = pre ++ suf → md_rc m s g near suf = md_rn m s g near suf := by
  intro suf
  induction suf with
  | nil => intro pre near _; rfl
  | cons k r ih =>
    intro pre near hH
    have ih' : ∀ near, md_rc m s g near r = md_rn m s g near r := fun near => ih (pre := pre ++ [k]) (near := near) (by rw [hH]; simp)
    unfold md_rc md_rn
    by_cases hk : m 51 k = s
    · rw [if_pos hk, if_pos hk]
      by_cases hr : ∃ k' ∈ r, m 51 k' = s
      · obtain ⟨k', h1, h2⟩ := hr
        rw [PgR_full hB hR hH hk h1 h2 hs, ih']
      · have hn : ∀ k' ∈ r, m 51 k' ≠ s := fun k' h1 h2 => hr ⟨k', h1, h2⟩
        rw [(md_rc_none (g := g) (near := m 52 k + (m 35 k + m 40 k) + g) hn).1, (md_rc_none (g := g) (near := m 52 k + m 53 k + g) hn).2]
    · rw [if_neg hk, if_neg hk, ih']
/-- the tops of a page's notes are on the page -/
theorem PgR_top {m : am_M} {p k : Int} (hB : Bk m) (hR : PgR m p) (h47 : 0 ≤ m 47 (2 * p) ∧ 0 ≤ m 47 (2 * p + 1)) (hk : k ∈ md_hr m (m 45 p) (m 46 p).toNat) : 0 ≤ m 52 k ∧ m 52 k ≤ 400 ∧ (m 51 k = 0 ∨ m 51 k = 1) ∧ -1 ≤ m 53 k ∧ m 53 k ≤ 500 := by
  obtain ⟨-, -, -, -, -, bits, c0, c1, xs0, xs1, w1, w2, w3, w4, w5, w6, w7, w8, -⟩ := hR
  obtain ⟨H, hHe⟩ : ∃ H, H = md_hr m (m 45 p) (m 46 p).toNat := ⟨_, rfl⟩
  rw [← hHe] at w1 w3 w4 w5 w6 w7 w8 hk
  have hvv : ∀ z ∈ H, 0 ≤ z ∧ z < m 32 8 := fun z hz => by
    rw [hHe] at hz
    have := md_hr_mem hz
    omega
  have hv : ∀ z ∈ H, 0 ≤ m 37 z := fun z hz => (hB.2.2.2.2.2.2.2.2 z (hvv z hz).1 (hvv z hz).2).2.2.2.1.1
  have hl0 : xs0.length = (md_rw m 0 bits H).length := by rw [rw_gr_len w5, mr_its_len]
  have hl1 : xs1.length = (md_rw m 1 bits H).length := by rw [rw_gr_len w7, mr_its_len]
  have gr : ∀ (its : List rw_I) (t : Int) (xs : List Int) (g : Int), 0 ≤ g → 0 ≤ t → rw_gr (m 32 2) g t its xs → ∀ x ∈ xs, 0 ≤ x ∧ x ≤ 400 := by
    intro its
    induction its with
    | nil => intro t xs g _ _ h x hx; cases xs with
      | nil => simp at hx
      | cons a b => exact absurd h id
    | cons it r ih =>
      intro t xs g hg ht h x hx
      cases xs with
      | nil => exact absurd h id
      | cons a b =>
        obtain ⟨⟨h1, h2, h3, -⟩, -, h5⟩ := h
        rcases List.mem_cons.mp hx with hx | hx
        · rw [hx]; exact ⟨by omega, h2⟩
        · exact ih _ b g hg (by have := h3.1; omega) h5 x hx
  have htop : ∀ r, 0 ≤ r → 0 ≤ md_top0 m r := fun r hr => by unfold md_top0; have := hB.2.1; split <;> omega
  have hsc : md_sc m (m 47 (2 * p)) (md_rw m 0 bits H) < rw_NV ∧ md_sc m (m 47 (2 * p + 1)) (md_rw m 1 bits H) < rw_NV := by
    obtain ⟨-, -, g3⟩ := w1.fin w2
    rw [md_dc_eq] at g3
    by_cases hc : md_sc m (m 47 (2 * p)) (md_rw m 0 bits H) < rw_NV ∧ md_sc m (m 47 (2 * p + 1)) (md_rw m 1 bits H) < rw_NV
    · exact hc
    · rw [if_neg hc] at g3; omega
  have fin : ∀ (s c rest : Int) (xs : List Int), (s = 0 ∨ s = 1) → 0 ≤ rest → md_sc m rest (md_rw m s bits H) < rw_NV → md_best m rest (md_rw m s bits H) c → rw_gr (m 32 2) (m 32 3) (md_top0 m rest) (mr_its m c (md_rw m s bits H)) xs → Pq m m p s c (md_rw m s bits H) xs → k ∈ md_rw m s bits H → 0 ≤ m 52 k ∧ m 52 k ≤ 400 ∧ (m 51 k = 0 ∨ m 51 k = 1) ∧ -1 ≤ m 53 k ∧ m 53 k ≤ 500 := by
    intro s c rest xs hs hr hsc hbest hg hPq hkr
    obtain ⟨i, hi⟩ := List.getElem?_of_mem hkr
    have hi2 := (List.getElem?_eq_some_iff.mp hi).1
    have hxl : xs.length = (md_rw m s bits H).length := by rw [rw_gr_len hg, mr_its_len]
    obtain ⟨a1, a2, a3, a4, a5⟩ := hPq i k xs[i] hi (by simp [hxl, hi2])
    have hx := gr _ _ xs _ hB.2.1.1 (htop rest hr) hg xs[i] (List.getElem_mem _)
    obtain ⟨f1, f2, -⟩ := hbest.fin hsc
    have htb : -1 ≤ m 53 k ∧ m 53 k ≤ 500 := by
      rw [a3]
      by_cases hla : i + 1 = (md_rw m s bits H).length
      · rw [decide_eq_true hla]
        have hch : mr_ch m (md_rw m s bits H) ≤ 1 + m 41 k := by
          unfold mr_ch
          have hgl : (md_rw m s bits H).getLast? = some k := by rw [List.getLast?_eq_getElem?, show (md_rw m s bits H).length - 1 = i by omega]; exact hi
          rw [hgl]
          have := (hB.2.2.2.2.2.2.2.2 k (hvv k hk).1 (hvv k hk).2).2.2.2.2.2.2.2.1
          show (if 0 ≤ m 42 k then 1 else 1 + m 41 k) ≤ _
          split <;> omega
        have := mr_tall_b hB (c := c) (la := true) (hvv k hk) f1 (fun _ => by omega)
        omega
      · rw [decide_eq_false hla]
        have := mr_tall_b hB (c := c) (la := false) (hvv k hk) f1 (fun z => by cases z)
        omega
    rw [a1, a2]
    exact ⟨hx.1, hx.2, hs, htb⟩
  rcases md_rw_cover (bits := bits) hv hk with h | h
  · exact fin 0 c0 (m 47 (2 * p)) xs0 (Or.inl rfl) h47.1 hsc.1 w3 w5 w6 h
  · exact fin 1 c1 (m 47 (2 * p + 1)) xs1 (Or.inr rfl) h47.2 hsc.2 w4 w7 w8 h
theorem pX1_countRuns (n : Nat) (μ m : am_M) (p s : Int) (hl : Lay n μ) (hB : Bk μ) (hC : Cb n μ) (hb : BE μ m) (hM : MS m) (hCl : Cls μ m) (p0 : 0 ≤ p) (p1 : p < m 32 23) (hs : s = 0 ∨ s = 1) : AC 12 [(2, 4), (0, p), (0, s)] n μ (PU (0, (if 0 < m 47 (2 * p + s) then 1 else 0) + md_rn m s (m 32 3) (if 0 < m 47 (2 * p + s) then m 47 (2 * p + s) + m 32 3 else -1) (md_hr m (m 45 p) (m 46 p).toNat)) n μ) := by
  obtain ⟨A, B, h1, h2, h3, h4⟩ := Cls.row (n := n) hB hb hM hCl p0 p1
  obtain ⟨l1, l2, l3, l4, l5, l6, l7⟩ := id hCl
  obtain ⟨q1, q2, q3, q4, q5, q6, q7⟩ := l3 p p0 p1
  obtain ⟨cn, ⟨c2, c3, c4, c5, c6, c7, c8⟩, ch, ck⟩ := id hC
  have hBm : Bk m := hB.tr hb
  have hQ := hM.pages hBm
  have hch := hM.1
  have hR := hch.2.2.1 p p0 p1
  obtain ⟨k1, k2, -⟩ := hch.2.2.2 p p0 (by omega)
  have hlen : (md_hr m 0 (m 32 7).toNat).length ≤ 24 := Nat.le_trans md_hr_le (by have := hBm.2.2.2.2.2.2.1; omega)
  have hrc : ∀ near, md_rc m s (m 32 3) near (md_hr m (m 45 p) (m 46 p).toNat) = md_rn m s (m 32 3) near (md_hr m (m 45 p) (m 46 p).toNat) := fun near => md_rc_eq hBm hR hs (pre := []) rfl
  rw [← hrc]
  have htop : ∀ k ∈ md_hr m (m 45 p) (m 46 p).toNat, 0 ≤ m 52 k ∧ m 52 k ≤ 400 := fun k hk => by have := PgR_top hBm hR ⟨k1.1, k2.1⟩ hk; omega
  obtain ⟨H, hH⟩ : ∃ H, H = md_hr m (m 45 p) (m 46 p).toNat := ⟨_, rfl⟩
  rw [← hH] at h1 h3 h4 htop ⊢
  rw [h1] at hlen
  have hlen2 : (A ++ H ++ B).length = A.length + H.length + B.length := by simp; omega
  have hlen3 : (A ++ H).length = A.length + H.length := List.length_append
  have e5 : μ 1 5 = m 32 3 := by rw [c5, hb.1 3 (by decide) (by decide)]
  have b5 := hBm.2.1
  obtain ⟨ca, hca⟩ : ∃ z, z = m 47 (2 * p + s) := ⟨_, rfl⟩
  rw [← hca]
  have hcb : 0 ≤ ca ∧ ca ≤ 100 := by
    rcases hs with rfl | rfl
    · rw [hca, show 2 * p + 0 = 2 * p by omega]; exact k1
    · rw [hca]; exact k2
  have F : ∀ (suf pre : List Int) (x near : Int) (v6 : am_V), H = pre ++ suf → (0 ≤ x ∧ x ≤ 1 + (pre.length : Int)) → AW none 12 64 [(2, 4), (0, p), (0, s), (0, x), (0, near), (0, (A.length : Int) + (pre.length : Int)), v6] [] n μ (PU (0, x + md_rc m s (m 32 3) near suf) n μ) := by
    intro suf
    induction suf with
    | nil =>
      intro pre x near v6 hps hx
      have hpl : H.length = pre.length := by rw [hps]; simp
      refine aw_iload (q := 66) mX1_countRuns dX1_countRuns_64 rfl rfl ?_
      refine aw_aload_n (q := 67) mX1_countRuns dX1_countRuns_66 rfl rfl ?_
      refine aw_get (t := 2) (ji := 9) (q := 70) mX1_countRuns dX1_countRuns_67 rfl f1_37 rfl kd_4 rfl (ly_4_9 hl) ?_
      refine aw_iload_n (q := 71) mX1_countRuns dX1_countRuns_70 rfl rfl ?_
      refine aw_iald (q := 72) mX1_countRuns dX1_countRuns_71 rfl kd_11 (by omega) (by omega) h3 ?_
      refine aw_icmp_ge (tgt := 136) (q := 75) mX1_countRuns dX1_countRuns_72 rfl (by decide) (fun c_72 => ?_) (fun c_72 => ?_)
      · refine aw_iload_n (q := 137) mX1_countRuns dX1_countRuns_136 rfl rfl ?_
        refine aw_iret mX1_countRuns dX1_countRuns_137 ?_
        exact ⟨by show some ((0 : Nat), x) = some (0, x + 0); rw [show x + 0 = x by omega], rfl, rfl⟩
      · exact absurd c_72 (by omega)
    | cons k suf ih =>
      intro pre x near v6 hps hx
      have hpl : H.length = pre.length + suf.length + 1 := by rw [hps]; simp; omega
      have hkH : k ∈ H := by rw [hps]; simp
      obtain ⟨⟨k0, k1⟩, g1, g2, g3, g4⟩ := h4 k hkH
      have hkt := htop k hkH
      have hkr : Nr n (nf k) := nf_r hC k0 k1
      obtain ⟨-, mm⟩ := ck k k0 k1
      have m8 := mm.2.2.2.2.2.2.2.1
      have e35 : m 35 k = μ 35 k := hb.2 35 k (by decide) (by decide)
      have e40 : m 40 k = μ 40 k := hb.2 40 k (by decide) (by decide)
      obtain ⟨-, n2, -, -, -, n6, n7, -⟩ := hB.2.2.2.2.2.2.2.2 k k0 k1
      obtain ⟨r, hr⟩ : ∃ r, r = nf k := ⟨_, rfl⟩
      rw [← hr] at hkr g1 g2 g3 m8
      rw [← e35, ← e40] at m8
      have hk_r := hkr.k
      have er : μ 16 ((A.length : Int) + (pre.length : Int)) = r := by
        have h9 := l6
        rw [h1, hps, show A ++ (pre ++ k :: suf) ++ B = (A ++ pre) ++ k :: (suf ++ B) by simp, List.map_append, List.map_cons] at h9
        have := Ar.mid h9
        rw [List.length_map, List.length_append] at this
        rw [hr, ← this]
        congr 1
      have hmv : md_rc m s (m 32 3) near (k :: suf) = if m 51 k = s then (if m 52 k = near then 0 else 1) + md_rc m s (m 32 3) (m 52 k + (m 35 k + m 40 k) + m 32 3) suf else md_rc m s (m 32 3) near suf := rfl
      rw [hmv]
      have K : ∀ (y nr : Int), (0 ≤ y ∧ y ≤ 1 + (pre.length : Int) + 1) → AW none 12 130 [(2, 4), (0, p), (0, s), (0, y), (0, nr), (0, (A.length : Int) + (pre.length : Int)), (2, r)] [] n μ (PU (0, y + md_rc m s (m 32 3) nr suf) n μ) := by
        intro y nr hyb
        have h9 := ih (pre ++ [k]) y nr (2, r) (by rw [hps]; simp) (by simp; omega)
        refine aw_iinc (q := 133) mX1_countRuns dX1_countRuns_130 rfl rfl (by decide) (by omega) (by omega) rfl ?_
        refine aw_goto (q := 64) mX1_countRuns dX1_countRuns_133 (by decide) ?_
        rw [List.length_append] at h9
        rw [show (A.length : Int) + (pre.length : Int) + 1 = (A.length : Int) + ((pre.length + [k].length : Nat) : Int) by simp; omega]
        exact h9
      have M : ∀ y : Int, (0 ≤ y ∧ y ≤ 1 + (pre.length : Int) + 1) → AW none 12 109 [(2, 4), (0, p), (0, s), (0, y), (0, near), (0, (A.length : Int) + (pre.length : Int)), (2, r)] [] n μ (PU (0, y + md_rc m s (m 32 3) (m 52 k + (m 35 k + m 40 k) + m 32 3) suf) n μ) := by
        intro y hyb
        refine aw_aload (q := 111) mX1_countRuns dX1_countRuns_109 rfl rfl ?_
        refine aw_get (t := 0) (ji := 13) (q := 114) mX1_countRuns dX1_countRuns_111 rfl f1_151 rfl hk_r rfl g3 ?_
        refine aw_aload (q := 116) mX1_countRuns dX1_countRuns_114 rfl rfl ?_
        refine aw_get (t := 0) (ji := 8) (q := 119) mX1_countRuns dX1_countRuns_116 rfl f1_154 rfl hk_r rfl m8 ?_
        refine aw_iadd (q := 120) mX1_countRuns dX1_countRuns_119 rfl (by omega) (by omega) ?_
        refine aw_aload_n (q := 121) mX1_countRuns dX1_countRuns_120 rfl rfl ?_
        refine aw_get (t := 2) (ji := 11) (q := 124) mX1_countRuns dX1_countRuns_121 rfl f1_52 rfl kd_4 rfl (ly_4_11 hl) ?_
        refine aw_get (t := 0) (ji := 5) (q := 127) mX1_countRuns dX1_countRuns_124 rfl f1_145 rfl kd_1 rfl e5 ?_
        refine aw_iadd (q := 128) mX1_countRuns dX1_countRuns_127 rfl (by omega) (by omega) ?_
        refine aw_istore (q := 130) mX1_countRuns dX1_countRuns_128 rfl (by decide) rfl ?_
        exact K y _ hyb
      refine aw_iload (q := 66) mX1_countRuns dX1_countRuns_64 rfl rfl ?_
      refine aw_aload_n (q := 67) mX1_countRuns dX1_countRuns_66 rfl rfl ?_
      refine aw_get (t := 2) (ji := 9) (q := 70) mX1_countRuns dX1_countRuns_67 rfl f1_37 rfl kd_4 rfl (ly_4_9 hl) ?_
      refine aw_iload_n (q := 71) mX1_countRuns dX1_countRuns_70 rfl rfl ?_
      refine aw_iald (q := 72) mX1_countRuns dX1_countRuns_71 rfl kd_11 (by omega) (by omega) h3 ?_
      refine aw_icmp_ge (tgt := 136) (q := 75) mX1_countRuns dX1_countRuns_72 rfl (by decide) (fun c_72 => ?_) (fun c_72 => ?_)
      · exact absurd c_72 (by omega)
      · refine aw_aload_n (q := 76) mX1_countRuns dX1_countRuns_75 rfl rfl ?_
        refine aw_get (t := 2) (ji := 12) (q := 79) mX1_countRuns dX1_countRuns_76 rfl f1_48 rfl kd_4 rfl (ly_4_12 hl) ?_
        refine aw_get (t := 2) (ji := 0) (q := 82) mX1_countRuns dX1_countRuns_79 rfl f1_123 rfl kd_15 rfl (ly_15_0 hl) ?_
        refine aw_iload (q := 84) mX1_countRuns dX1_countRuns_82 rfl rfl ?_
        refine aw_aald (q := 85) mX1_countRuns dX1_countRuns_84 rfl kd_16 (by omega) (by omega) er ?_
        refine aw_astore (q := 87) mX1_countRuns dX1_countRuns_85 rfl (by decide) rfl ?_
        refine aw_aload (q := 89) mX1_countRuns dX1_countRuns_87 rfl rfl ?_
        refine aw_get (t := 0) (ji := 12) (q := 92) mX1_countRuns dX1_countRuns_89 rfl f1_148 rfl hk_r rfl g2 ?_
        refine aw_iload_n (q := 93) mX1_countRuns dX1_countRuns_92 rfl rfl ?_
        refine aw_icmp_ne (tgt := 130) (q := 96) mX1_countRuns dX1_countRuns_93 rfl (by decide) (fun c_93 => ?_) (fun c_93 => ?_)
        · rw [if_neg c_93]
          exact K x near (by omega)
        · rw [if_pos (Decidable.not_not.mp c_93)]
          refine aw_aload (q := 98) mX1_countRuns dX1_countRuns_96 rfl rfl ?_
          refine aw_get (t := 0) (ji := 13) (q := 101) mX1_countRuns dX1_countRuns_98 rfl f1_151 rfl hk_r rfl g3 ?_
          refine aw_iload (q := 103) mX1_countRuns dX1_countRuns_101 rfl rfl ?_
          refine aw_icmp_eq (tgt := 109) (q := 106) mX1_countRuns dX1_countRuns_103 rfl (by decide) (fun c_103 => ?_) (fun c_103 => ?_)
          · rw [if_pos c_103, show x + (0 + md_rc m s (m 32 3) (m 52 k + (m 35 k + m 40 k) + m 32 3) suf) = x + md_rc m s (m 32 3) (m 52 k + (m 35 k + m 40 k) + m 32 3) suf by omega]
            exact M x (by omega)
          · rw [if_neg c_103, show x + (1 + md_rc m s (m 32 3) (m 52 k + (m 35 k + m 40 k) + m 32 3) suf) = x + 1 + md_rc m s (m 32 3) (m 52 k + (m 35 k + m 40 k) + m 32 3) suf by omega]
            refine aw_iinc (q := 109) mX1_countRuns dX1_countRuns_106 rfl rfl (by decide) (by omega) (by omega) rfl ?_
            exact M (x + 1) (by omega)
  -- behind what is carried
  have J : ∀ (x near : Int) (v5 v6 : am_V), (0 ≤ x ∧ x ≤ 1) → AW none 12 56 [(2, 4), (0, p), (0, s), (0, x), (0, near), v5, v6] [] n μ (PU (0, x + md_rc m s (m 32 3) near H) n μ) := by
    intro x near v5 v6 hx
    refine aw_aload_n (q := 57) mX1_countRuns dX1_countRuns_56 rfl rfl ?_
    refine aw_get (t := 2) (ji := 8) (q := 60) mX1_countRuns dX1_countRuns_57 rfl f1_34 rfl kd_4 rfl (ly_4_8 hl) ?_
    refine aw_iload_n (q := 61) mX1_countRuns dX1_countRuns_60 rfl rfl ?_
    refine aw_iald (q := 62) mX1_countRuns dX1_countRuns_61 rfl kd_10 (by omega) (by omega) h2 ?_
    refine aw_istore (q := 64) mX1_countRuns dX1_countRuns_62 rfl (by decide) rfl ?_
    have h9 := F H [] x near v6 rfl (by simp; omega)
    rw [show (A.length : Int) + (([] : List Int).length : Int) = (A.length : Int) by simp] at h9
    exact h9
  have Z : ∀ (e : Int), (e = 13 ∨ e = 14) → μ 12 s = e → μ e p = ca → am_kind e = (1, 84) → AW none 12 19 [(2, 4), (0, p), (0, s), (9, 0), (9, 0), (9, 0), (9, 0)] [] n μ (PU (0, (if 0 < ca then 1 else 0) + md_rc m s (m 32 3) (if 0 < ca then ca + m 32 3 else -1) H) n μ) := by
    intro e he hes hep hke
    refine aw_iconst (q := 20) mX1_countRuns dX1_countRuns_19 rfl rfl ?_
    refine aw_istore_n (q := 21) mX1_countRuns dX1_countRuns_20 rfl (by decide) rfl ?_
    refine aw_iconst (q := 22) mX1_countRuns dX1_countRuns_21 rfl rfl ?_
    refine aw_istore (q := 24) mX1_countRuns dX1_countRuns_22 rfl (by decide) rfl ?_
    refine aw_aload_n (q := 25) mX1_countRuns dX1_countRuns_24 rfl rfl ?_
    refine aw_get (t := 2) (ji := 10) (q := 28) mX1_countRuns dX1_countRuns_25 rfl f1_42 rfl kd_4 rfl (ly_4_10 hl) ?_
    refine aw_iload_n (q := 29) mX1_countRuns dX1_countRuns_28 rfl rfl ?_
    refine aw_ald4 (q := 30) mX1_countRuns dX1_countRuns_29 rfl kd_12 (by omega) (by omega) hes ?_
    refine aw_iload_n (q := 31) mX1_countRuns dX1_countRuns_30 rfl rfl ?_
    refine aw_iald (q := 32) mX1_countRuns dX1_countRuns_31 rfl hke (by omega) (by omega) hep ?_
    refine aw_if_le (tgt := 56) (q := 35) mX1_countRuns dX1_countRuns_32 rfl (by decide) (fun c_32 => ?_) (fun c_32 => ?_)
    · rw [if_neg (by omega), if_neg (by omega)]
      exact J 0 (-1) _ _ (by omega)
    · rw [if_pos (by omega), if_pos (by omega)]
      refine aw_iinc (q := 38) mX1_countRuns dX1_countRuns_35 rfl rfl (by decide) (by omega) (by omega) rfl ?_
      refine aw_aload_n (q := 39) mX1_countRuns dX1_countRuns_38 rfl rfl ?_
      refine aw_get (t := 2) (ji := 10) (q := 42) mX1_countRuns dX1_countRuns_39 rfl f1_42 rfl kd_4 rfl (ly_4_10 hl) ?_
      refine aw_iload_n (q := 43) mX1_countRuns dX1_countRuns_42 rfl rfl ?_
      refine aw_ald4 (q := 44) mX1_countRuns dX1_countRuns_43 rfl kd_12 (by omega) (by omega) hes ?_
      refine aw_iload_n (q := 45) mX1_countRuns dX1_countRuns_44 rfl rfl ?_
      refine aw_iald (q := 46) mX1_countRuns dX1_countRuns_45 rfl hke (by omega) (by omega) hep ?_
      refine aw_aload_n (q := 47) mX1_countRuns dX1_countRuns_46 rfl rfl ?_
      refine aw_get (t := 2) (ji := 11) (q := 50) mX1_countRuns dX1_countRuns_47 rfl f1_52 rfl kd_4 rfl (ly_4_11 hl) ?_
      refine aw_get (t := 0) (ji := 5) (q := 53) mX1_countRuns dX1_countRuns_50 rfl f1_145 rfl kd_1 rfl e5 ?_
      refine aw_iadd (q := 54) mX1_countRuns dX1_countRuns_53 rfl (by omega) (by omega) ?_
      refine aw_istore (q := 56) mX1_countRuns dX1_countRuns_54 rfl (by decide) rfl ?_
      exact J 1 _ _ _ (by omega)
  refine AC.of rfl ?_
  refine aw_aload_n (q := 1) mX1_countRuns dX1_countRuns_0 rfl rfl ?_
  refine aw_iload_n (q := 2) mX1_countRuns dX1_countRuns_1 rfl rfl ?_
  refine aw_v1 (ci := 1) (q := 5) mX1_countRuns dX1_countRuns_2 rfl l1_138 k12_9 rfl kd_4 rfl rfl rfl (pX1_hasPage n μ p hl) (kint (fun y μ3 hy => ?_))
  obtain ⟨hm3, hy⟩ := hy
  subst hm3
  refine aw_if_eq (tgt := 17) (q := 8) mX1_countRuns dX1_countRuns_5 rfl (by decide) (fun c_5 => ?_) (fun c_5 => ?_)
  · exfalso
    rcases hy with ⟨y1, -⟩ | ⟨-, y2⟩
    · omega
    · exact y2 ⟨p0, by rw [l1]; exact p1⟩
  · refine aw_iload_n (q := 9) mX1_countRuns dX1_countRuns_8 rfl rfl ?_
    refine aw_iconst (q := 10) mX1_countRuns dX1_countRuns_9 rfl rfl ?_
    refine aw_iconst (q := 11) mX1_countRuns dX1_countRuns_10 rfl rfl ?_
    refine aw_s3 (q := 14) mX1_countRuns dX1_countRuns_11 rfl lm1_141 l1_141 k12_84 rfl rfl rfl (pX6_within n μ3 s 0 1) (kint (fun y' μ4 hy' => ?_))
    obtain ⟨hm4, hy'⟩ := hy'
    subst hm4
    refine aw_if_ne (tgt := 19) (q := 17) mX1_countRuns dX1_countRuns_14 rfl (by decide) (fun c_14 => ?_) (fun c_14 => ?_)
    · rcases hs with rfl | rfl
      · exact Z 13 (Or.inl rfl) (ly_12_0 hl) (by rw [hca, show 2 * p + 0 = 2 * p by omega]; exact q4) kd_13
      · exact Z 14 (Or.inr rfl) (ly_12_1 hl) (by rw [hca]; exact q5) kd_14
    · exfalso
      rcases hy' with ⟨y1, -⟩ | ⟨-, y2⟩
      · exact c_14 (by omega)
      · exact y2 (by omega)

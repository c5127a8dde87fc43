/-! the reference: canStand, isHeld -/
/-- the row at hand, of the notes rw -/
theorem Rv.of {μ : am_M} {rw : List Int} (hA : Ar μ 59 rw) (hn : μ 32 40 = (rw.length : Int)) (h24 : rw.length ≤ 24) (hv : ∀ k ∈ rw, 0 ≤ k ∧ k < μ 32 8) : Rv μ := by
  refine ⟨by omega, fun i h0 h1 => ?_⟩
  have hi : i.toNat < rw.length := by omega
  have := hA i.toNat rw[i.toNat] (by simp [hi])
  rw [show ((i.toNat : Nat) : Int) = i by omega] at this
  rw [this]
  exact hv _ (List.getElem_mem hi)
/-- a row in words of its notes: the last one's tall by the choice -/
def mr_tall (μ : am_M) (c : Int) (k : Int) (last : Bool) : Int := if c = 0 ∨ last = false then μ 35 k + μ 40 k else if μ 32 2 < μ 35 k - μ 44 (3 * k + c - 1) then -1 else μ 44 (3 * k + c - 1)
def mr_its (μ : am_M) (c : Int) : List Int → List rw_I
  | [] => []
  | k :: r => (mr_tall μ c k r.isEmpty, μ 42 k, μ 36 k, μ 49 (μ 34 k)) :: mr_its μ c r
theorem mr_its_eq {μ : am_M} {c : Int} {rw : List Int} (hA : Ar μ 59 rw) (hn : μ 32 40 = (rw.length : Int)) : ∀ (suf pre : List Int), rw = pre ++ suf → md_its μ c (pre.length : Int) suf.length = mr_its μ c suf := by
  intro suf
  induction suf with
  | nil => intro pre _; rfl
  | cons k suf ih =>
    intro pre hp
    have hk : μ 59 (pre.length : Int) = k := Ar.mid (by rw [← hp]; exact hA)
    have hl : rw.length = pre.length + suf.length + 1 := by rw [hp]; simp; omega
    have h2 := ih (pre ++ [k]) (by rw [hp]; simp)
    rw [List.length_append] at h2
    show md_it μ c (pre.length : Int) :: md_its μ c ((pre.length : Int) + 1) suf.length = _
    rw [show ((pre.length : Int) + 1) = ((pre.length + [k].length : Nat) : Int) by simp, h2]
    show _ = (mr_tall μ c k suf.isEmpty, μ 42 k, μ 36 k, μ 49 (μ 34 k)) :: mr_its μ c suf
    congr 1
    unfold md_it md_tall mr_tall
    rw [hk]
    congr 1
    have e : ((pre.length : Int) < μ 32 40 - 1) ↔ suf.isEmpty = false := by
      rw [hn, hl]
      cases suf with
      | nil => simp
      | cons a b => simp; omega
    simp only [e]
theorem mr_its_eq0 {μ : am_M} {c : Int} {rw : List Int} (hA : Ar μ 59 rw) (hn : μ 32 40 = (rw.length : Int)) : md_its μ c 0 (μ 32 40).toNat = mr_its μ c rw := by
  have h := mr_its_eq (c := c) hA hn rw [] rfl
  rw [hn, show ((rw.length : Int)).toNat = rw.length by omega]
  exact h
/-- how many ways the last one can end -/
def mr_ch (μ : am_M) (rw : List Int) : Int := match rw.getLast? with
  | none => 1
  | some k => if 0 ≤ μ 42 k then 1 else 1 + μ 41 k
theorem mr_ch_eq {μ : am_M} {rw : List Int} (hA : Ar μ 59 rw) (hn : μ 32 40 = (rw.length : Int)) : md_choices μ = mr_ch μ rw := by
  unfold md_choices mr_ch
  cases h : rw.getLast? with
  | none =>
    have : rw = [] := by simpa using h
    rw [if_pos (by rw [hn, this]; rfl)]
  | some k =>
    have hne : rw ≠ [] := by intro e; rw [e] at h; cases h
    have hl : 0 < rw.length := List.length_pos_iff.mpr hne
    rw [if_neg (by omega)]
    have hk : μ 59 (μ 32 40 - 1) = k := by
      have := hA (rw.length - 1) k (by rw [← List.getLast?_eq_getElem?]; exact h)
      rw [hn, show ((rw.length : Int) - 1) = ((rw.length - 1 : Nat) : Int) by omega]
      exact this
    rw [hk]
/-- the row can stand -/
def mr_can (μ : am_M) (rest : Int) (rw : List Int) : Prop := ∃ c, 0 ≤ c ∧ c < mr_ch μ rw ∧ rw_sd (μ 32 2) (μ 32 3) (md_top0 μ rest) (mr_its μ c rw)
theorem mr_tall_tr {μ μ1 : am_M} (hb : BE μ μ1) (c k : Int) (b : Bool) : mr_tall μ1 c k b = mr_tall μ c k b := by
  unfold mr_tall
  rw [hb.1 2 (by decide) (by decide), hb.2 35 _ (by decide) (by decide), hb.2 40 _ (by decide) (by decide), hb.2 44 _ (by decide) (by decide)]
theorem mr_its_tr {μ μ1 : am_M} (hb : BE μ μ1) (h49 : ∀ j, μ1 49 j = μ 49 j) (c : Int) : ∀ rw : List Int, mr_its μ1 c rw = mr_its μ c rw := by
  intro rw
  induction rw with
  | nil => rfl
  | cons k r ih =>
    unfold mr_its
    rw [mr_tall_tr hb, ih, h49, hb.2 42 _ (by decide) (by decide), hb.2 36 _ (by decide) (by decide), hb.2 34 _ (by decide) (by decide)]
theorem mr_ch_tr {μ μ1 : am_M} (hb : BE μ μ1) (rw : List Int) : mr_ch μ1 rw = mr_ch μ rw := by
  unfold mr_ch
  cases rw.getLast? with
  | none => rfl
  | some k =>
    show (if 0 ≤ μ1 42 k then 1 else 1 + μ1 41 k) = (if 0 ≤ μ 42 k then 1 else 1 + μ 41 k)
    rw [hb.2 42 _ (by decide) (by decide), hb.2 41 _ (by decide) (by decide)]
theorem md_top0_tr {μ μ1 : am_M} (hb : BE μ μ1) (rest : Int) : md_top0 μ1 rest = md_top0 μ rest := by
  unfold md_top0
  rw [hb.1 3 (by decide) (by decide)]
theorem mr_can_tr {μ μ1 : am_M} (hb : BE μ μ1) (h49 : ∀ j, μ1 49 j = μ 49 j) (rest : Int) (rw : List Int) : mr_can μ1 rest rw ↔ mr_can μ rest rw := by
  unfold mr_can
  rw [mr_ch_tr hb, md_top0_tr hb, hb.1 2 (by decide) (by decide), hb.1 3 (by decide) (by decide)]
  constructor
  · rintro ⟨c, h1, h2, h3⟩; exact ⟨c, h1, h2, by rw [mr_its_tr hb h49] at h3; exact h3⟩
  · rintro ⟨c, h1, h2, h3⟩; exact ⟨c, h1, h2, by rw [mr_its_tr hb h49]; exact h3⟩
theorem pX7_canStand (n : Nat) (μ : am_M) (s rest : Int) (H Sd : List Int) (hl0 : Lay n μ) (hB : Bk μ) (hA : Ar μ 56 H) (hS : Ar μ 57 Sd) (hn : μ 32 39 = (H.length : Int)) (hlen : Sd.length = H.length) (hH : H.length ≤ 24) (hv : ∀ k ∈ H, 0 ≤ k ∧ k < μ 32 8) (hr0 : 0 ≤ rest) (hr1 : rest ≤ 400) : AC 117 [(2, 32), (0, s), (0, rest)] n μ (PI n (fun x μ' => Of Sr μ μ' ∧ ((x = 1 ∧ mr_can μ rest (md_ro s H Sd)) ∨ (x = 0 ∧ ¬ mr_can μ rest (md_ro s H Sd))))) := by
  have hl := hl0
  refine AC.of rfl ?_
  refine aw_aload_n (q := 1) mX7_canStand dX7_canStand_0 rfl rfl ?_
  refine aw_iload_n (q := 2) mX7_canStand dX7_canStand_1 rfl rfl ?_
  refine aw_v1 (ci := 7) (q := 5) mX7_canStand dX7_canStand_2 rfl l7_187 k117_112 rfl kd_32 rfl rfl rfl (pX7_rowOf n μ s H Sd hl0 hA hS hn hlen hH) (kvoid (fun μ1 hq => ?_))
  obtain ⟨hO, hA1, hn1⟩ := hq
  have hl : Lay n μ1 := hl0.ofW (hO.mono Sr_Sw)
  have hBE : BE μ μ1 := (hO.mono Sr_Sw).beW
  have h49 : ∀ j, μ1 49 j = μ 49 j := fun j => hO 49 j (by unfold Sr; omega)
  have hB1 := hB.tr hBE
  have hR1 : Rv μ1 := Rv.of hA1 hn1 (Nat.le_trans md_ro_le hH) (fun k hk => by rw [hBE.1 8 (by decide) (by decide)]; exact hv k (md_ro_mem hk))
  have hch := mr_ch_eq hA1 hn1
  have hcb : 1 ≤ md_choices μ1 ∧ md_choices μ1 ≤ 4 := by
    unfold md_choices
    split
    · omega
    · have h1 := hR1.2 (μ1 32 40 - 1) (by have := hR1.1; omega) (by omega)
      obtain ⟨-, -, -, -, -, -, -, n8, -⟩ := hB1.2.2.2.2.2.2.2.2 _ h1.1 h1.2
      split <;> omega
  have hst : ∀ c, 0 ≤ c → c < md_choices μ1 → AC 115 [(2, 32), (0, rest), (0, c)] n μ1 (PB (rw_sd (μ 32 2) (μ 32 3) (md_top0 μ rest) (mr_its μ c (md_ro s H Sd))) n μ1) := by
    intro c h0 h1
    have h9 := pX7_stands n μ1 rest c hl hB1 hR1 h0 h1 hr0 hr1
    rw [mr_its_eq0 hA1 hn1, mr_its_tr hBE h49, md_top0_tr hBE, hBE.1 2 (by decide) (by decide), hBE.1 3 (by decide) (by decide)] at h9
    exact h9
  have F : ∀ (d : Nat) (c : Int), 0 ≤ c → c + d = md_choices μ1 → (∀ c', 0 ≤ c' → c' < c → ¬ rw_sd (μ 32 2) (μ 32 3) (md_top0 μ rest) (mr_its μ c' (md_ro s H Sd))) → AW none 117 13 [(2, 32), (0, s), (0, rest), (0, md_choices μ1), (0, c)] [] n μ1 (PI n (fun x μ' => Of Sr μ μ' ∧ ((x = 1 ∧ mr_can μ rest (md_ro s H Sd)) ∨ (x = 0 ∧ ¬ mr_can μ rest (md_ro s H Sd))))) := by
    intro d
    induction d with
    | zero =>
      intro c h0 h1 hno
      refine aw_iload (q := 15) mX7_canStand dX7_canStand_13 rfl rfl ?_
      refine aw_iload_n (q := 16) mX7_canStand dX7_canStand_15 rfl rfl ?_
      refine aw_icmp_ge (tgt := 37) (q := 19) mX7_canStand dX7_canStand_16 rfl (by decide) (fun c_16 => ?_) (fun c_16 => ?_)
      · refine aw_iconst (q := 38) mX7_canStand dX7_canStand_37 rfl rfl ?_
        refine aw_zret mX7_canStand dX7_canStand_38 (by first | exact Or.inl rfl | exact Or.inr rfl | assumption | omega) ?_
        refine ⟨0, rfl, rfl, hO, Or.inr ⟨rfl, ?_⟩⟩
        rintro ⟨c', k1, k2, k3⟩
        rw [← mr_ch_tr hBE, ← hch] at k2
        exact hno c' k1 (by omega) k3
      · exact absurd c_16 (by omega)
    | succ d ih =>
      intro c h0 h1 hno
      refine aw_iload (q := 15) mX7_canStand dX7_canStand_13 rfl rfl ?_
      refine aw_iload_n (q := 16) mX7_canStand dX7_canStand_15 rfl rfl ?_
      refine aw_icmp_ge (tgt := 37) (q := 19) mX7_canStand dX7_canStand_16 rfl (by decide) (fun c_16 => ?_) (fun c_16 => ?_)
      · exact absurd c_16 (by omega)
      · refine aw_aload_n (q := 20) mX7_canStand dX7_canStand_19 rfl rfl ?_
        refine aw_iload_n (q := 21) mX7_canStand dX7_canStand_20 rfl rfl ?_
        refine aw_iload (q := 23) mX7_canStand dX7_canStand_21 rfl rfl ?_
        refine aw_v2 (ci := 7) (q := 26) mX7_canStand dX7_canStand_23 rfl l7_195 k117_115 rfl kd_32 rfl rfl rfl (hst c h0 (by omega)) (kint (fun x μ3 hx => ?_))
        obtain ⟨rfl, hx⟩ := hx
        refine aw_if_eq (tgt := 31) (q := 29) mX7_canStand dX7_canStand_26 rfl (by decide) (fun c_26 => ?_) (fun c_26 => ?_)
        · refine aw_iinc (q := 34) mX7_canStand dX7_canStand_31 rfl rfl (by decide) (by omega) (by omega) rfl ?_
          refine aw_goto (q := 13) mX7_canStand dX7_canStand_34 (by decide) ?_
          refine ih (c + 1) (by omega) (by omega) (fun c' k1 k2 => ?_)
          by_cases he : c' = c
          · rw [he]
            rcases hx with ⟨h2, -⟩ | ⟨-, h3⟩
            · omega
            · exact h3
          · exact hno c' k1 (by omega)
        · refine aw_iconst (q := 30) mX7_canStand dX7_canStand_29 rfl rfl ?_
          refine aw_zret mX7_canStand dX7_canStand_30 (by first | exact Or.inl rfl | exact Or.inr rfl | assumption | omega) ?_
          refine ⟨1, rfl, rfl, hO, Or.inl ⟨rfl, c, h0, ?_, ?_⟩⟩
          · rw [← mr_ch_tr hBE, ← hch]; omega
          · rcases hx with ⟨-, h3⟩ | ⟨h2, -⟩
            · exact h3
            · exact absurd h2 c_26
  refine aw_aload_n (q := 6) mX7_canStand dX7_canStand_5 rfl rfl ?_
  refine aw_v0 (ci := 7) (q := 9) mX7_canStand dX7_canStand_6 rfl l7_191 k117_113 rfl kd_32 rfl rfl rfl (pX7_choices n μ1 hl hB1 hR1) (kpure ?_)
  refine aw_istore_n (q := 10) mX7_canStand dX7_canStand_9 rfl (by decide) rfl ?_
  refine aw_iconst (q := 11) mX7_canStand dX7_canStand_10 rfl rfl ?_
  refine aw_istore (q := 13) mX7_canStand dX7_canStand_11 rfl (by decide) rfl ?_
  exact F (md_choices μ1).toNat 0 (by decide) (by omega) (fun c' k1 k2 => by omega)

def Pq (μ μ' : am_M) (p s c : Int) (rw xs : List Int) : Prop := ∀ (i : Nat) (k x : Int), rw[i]? = some k → xs[i]? = some x → μ' 51 k = s ∧ μ' 52 k = x ∧ μ' 53 k = mr_tall μ c k (decide (i + 1 = rw.length)) ∧ μ' 54 k = μ 35 k + μ 40 k - mr_tall μ c k (decide (i + 1 = rw.length)) ∧ μ' 55 k = p
def mr_carry (μ : am_M) (c : Int) (rw : List Int) : Int := match rw.getLast? with
  | none => 0
  | some k => μ 35 k + μ 40 k - mr_tall μ c k true
theorem md_tall_mr {μ μr : am_M} {rw : List Int} {c : Int} (hBE : BE μ μr) (hA : Ar μr 59 rw) (hn : μr 32 40 = (rw.length : Int)) {i : Nat} {k : Int} (hk : rw[i]? = some k) : md_tall μr (i : Int) c = mr_tall μ c k (decide (i + 1 = rw.length)) := by
  have h1 := hA i k hk
  have hi : i < rw.length := (List.getElem?_eq_some_iff.mp hk).1
  unfold md_tall mr_tall
  rw [h1, hn, hBE.1 2 (by decide) (by decide), hBE.2 35 _ (by decide) (by decide), hBE.2 40 _ (by decide) (by decide), hBE.2 44 _ (by decide) (by decide)]
  have e : ((i : Int) < (rw.length : Int) - 1) ↔ decide (i + 1 = rw.length) = false := by simp; omega
  simp only [e]
def Sq (p s : Int) (rw : List Int) (a j : Int) : Prop := a = 59 ∨ (a = 32 ∧ j = 40) ∨ Sp p s rw a j
theorem Sq_Sw {p s : Int} {rw : List Int} : ∀ a j, Sq p s rw a j → Sw a j := fun a j h => by unfold Sq Sp at h; unfold Sw; omega
theorem Lt.of {μ : am_M} {rw : List Int} (hA : Ar μ 59 rw) (hn : μ 32 40 = (rw.length : Int)) (h : ∀ k ∈ rw, 0 ≤ μ 49 (μ 34 k) ∧ μ 49 (μ 34 k) ≤ 400) : Lt μ := by
  intro i h0 h1
  have hi : i.toNat < rw.length := by omega
  have := hA i.toNat rw[i.toNat] (by simp [hi])
  rw [show ((i.toNat : Nat) : Int) = i by omega] at this
  rw [this]
  exact h _ (List.getElem_mem hi)
theorem md_ro_nodup {s : Int} : ∀ {l q : List Int}, l.Nodup → (md_ro s l q).Nodup := by
  intro l
  induction l with
  | nil => intro q _; simp [md_ro]
  | cons x r ih =>
    intro q h
    cases q with
    | nil => simp [md_ro]
    | cons y q =>
      have h2 := List.nodup_cons.mp h
      unfold md_ro
      split
      · exact List.nodup_cons.mpr ⟨fun z => h2.1 (md_ro_mem z), ih h2.2⟩
      · exact ih h2.2
theorem pX7_places (n : Nat) (μ : am_M) (p s c rest : Int) (H Sd : List Int) (hl0 : Lay n μ) (hB : Bk μ) (hA : Ar μ 56 H) (hS : Ar μ 57 Sd) (hn : μ 32 39 = (H.length : Int)) (hlen : Sd.length = H.length) (hH : H.length ≤ 24) (hv : ∀ k ∈ H, 0 ≤ k ∧ k < μ 32 8) (hnd : H.Nodup) (hlt : ∀ k ∈ H, 0 ≤ μ 49 (μ 34 k) ∧ μ 49 (μ 34 k) ≤ 400) (hp0 : 0 ≤ p) (hp1 : p ≤ 139) (hs : s = 0 ∨ s = 1) (hc : μ 61 s = c) (hrest : μ 47 (2 * p + s) = rest) (hr0 : 0 ≤ rest) (hr1 : rest ≤ 400) (hc0 : 0 ≤ c) (hc1 : c < mr_ch μ (md_ro s H Sd)) (hfin : md_ro s H Sd ≠ [] → md_top0 μ rest ≤ 400 ∧ rw_D (μ 32 2) (μ 32 3) (mr_its μ c (md_ro s H Sd)) (md_top0 μ rest) < rw_NV) : AC 121 [(2, 32), (0, p), (0, s)] n μ (PV n (fun μ' => Of (Sq p s (md_ro s H Sd)) μ μ' ∧ μ' 47 (2 * p + 2 + s) = mr_carry μ c (md_ro s H Sd) ∧ ∃ xs, rw_gr (μ 32 2) (μ 32 3) (md_top0 μ rest) (mr_its μ c (md_ro s H Sd)) xs ∧ Pq μ μ' p s c (md_ro s H Sd) xs)) := by
  obtain ⟨b1, b2, b3, b4, b5, b6, b7, b8, b9⟩ := id hB
  obtain ⟨rw, hrw⟩ : ∃ r, r = md_ro s H Sd := ⟨_, rfl⟩
  have hl := hl0
  refine AC.of rfl ?_
  refine aw_aload_n (q := 1) mX7_places dX7_places_0 rfl rfl ?_
  refine aw_iload_n (q := 2) mX7_places dX7_places_1 rfl rfl ?_
  refine aw_v1 (ci := 7) (q := 5) mX7_places dX7_places_2 rfl l7_187 k121_112 rfl kd_32 rfl rfl rfl (pX7_rowOf n μ s H Sd hl0 hA hS hn hlen hH) (kvoid (fun μr hq => ?_))
  rw [← hrw] at hq hc1 hfin ⊢
  obtain ⟨hO, hAr, hnr⟩ := hq
  have hl : Lay n μr := hl0.ofW (hO.mono Sr_Sw)
  have hlr := hl
  have hBE : BE μ μr := (hO.mono Sr_Sw).beW
  have h49 : ∀ j, μr 49 j = μ 49 j := fun j => hO 49 j (by unfold Sr; omega)
  have hBr := hB.tr hBE
  have hrl : rw.length ≤ 24 := by rw [hrw]; exact Nat.le_trans md_ro_le hH
  have hrm : ∀ k ∈ rw, k ∈ H := fun k hk => by rw [hrw] at hk; exact md_ro_mem hk
  have hRr : Rv μr := Rv.of hAr hnr hrl (fun k hk => by rw [hBE.1 8 (by decide) (by decide)]; exact hv k (hrm k hk))
  have hLr : Lt μr := Lt.of hAr hnr (fun k hk => by rw [h49, hBE.2 34 _ (by decide) (by decide)]; exact hlt k (hrm k hk))
  have hch : md_choices μr = mr_ch μ rw := by rw [mr_ch_eq hAr hnr, mr_ch_tr hBE]
  have hits : md_its μr c 0 (μr 32 40).toNat = mr_its μ c rw := by rw [mr_its_eq0 hAr hnr, mr_its_tr hBE h49]
  have e61 : μr 61 s = c := (hO 61 s (by unfold Sr; omega)).trans hc
  have e47 : μr 47 (2 * p + s) = rest := (hO 47 _ (by unfold Sr; omega)).trans hrest
  have ht0 : 0 ≤ md_top0 μ rest := by unfold md_top0; split <;> omega
  have ht1 : md_top0 μ rest ≤ 420 := by unfold md_top0; split <;> omega
  refine aw_aload_n (q := 6) mX7_places dX7_places_5 rfl rfl ?_
  refine aw_get (t := 2) (ji := 42) (q := 9) mX7_places dX7_places_6 rfl f7_108 rfl kd_32 rfl (ly_32_42 hl) ?_
  refine aw_iload_n (q := 10) mX7_places dX7_places_9 rfl rfl ?_
  refine aw_iald (q := 11) mX7_places dX7_places_10 rfl kd_61 (by omega) (by omega) e61 ?_
  refine aw_istore_n (q := 12) mX7_places dX7_places_11 rfl (by decide) rfl ?_
  refine aw_aload_n (q := 13) mX7_places dX7_places_12 rfl rfl ?_
  refine aw_aload_n (q := 14) mX7_places dX7_places_13 rfl rfl ?_
  refine aw_get (t := 2) (ji := 26) (q := 17) mX7_places dX7_places_14 rfl f7_65 rfl kd_32 rfl (ly_32_26 hl) ?_
  refine aw_iconst (q := 18) mX7_places dX7_places_17 rfl rfl ?_
  refine aw_iload_n (q := 19) mX7_places dX7_places_18 rfl rfl ?_
  refine aw_imul (q := 20) mX7_places dX7_places_19 rfl (by omega) (by omega) ?_
  refine aw_iload_n (q := 21) mX7_places dX7_places_20 rfl rfl ?_
  refine aw_iadd (q := 22) mX7_places dX7_places_21 rfl (by omega) (by omega) ?_
  refine aw_iald (q := 23) mX7_places dX7_places_22 rfl kd_47 (by omega) (by omega) e47 ?_
  refine aw_iload_n (q := 24) mX7_places dX7_places_23 rfl rfl ?_
  refine aw_v2 (ci := 7) (q := 27) mX7_places dX7_places_24 rfl l7_213 k121_118 rfl kd_32 rfl rfl rfl (pX7_costs n μr rest c hlr hBr hRr hLr hc0 (by rw [hch]; exact hc1) hr0 hr1) (klong (fun x μc hx => ?_))
  obtain ⟨-, hOc, hTc⟩ := hx
  have hl : Lay n μc := hlr.off hOc la_62
  have e47c : μc 47 (2 * p + s) = rest := (hOc 47 _ (by decide)).trans e47
  have e3c : μc 32 3 = μ 32 3 := (hOc 32 3 (by decide)).trans (hBE.1 3 (by decide) (by decide))
  have J : AW none 121 67 [(2, 32), (0, p), (0, s), (0, c), (0, 401), (0, md_top0 μ rest), (9, 0), (9, 0), (9, 0), (9, 0), (9, 0)] [] n μc (PV n (fun μ' => Of (Sq p s rw) μ μ' ∧ μ' 47 (2 * p + 2 + s) = mr_carry μ c rw ∧ ∃ xs, rw_gr (μ 32 2) (μ 32 3) (md_top0 μ rest) (mr_its μ c rw) xs ∧ Pq μ μ' p s c rw xs)) := by
    refine aw_aload_n (q := 68) mX7_places dX7_places_67 rfl rfl ?_
    refine aw_get (t := 2) (ji := 26) (q := 71) mX7_places dX7_places_68 rfl f7_65 rfl kd_32 rfl (ly_32_26 hl) ?_
    refine aw_iconst (q := 72) mX7_places dX7_places_71 rfl rfl ?_
    refine aw_iload_n (q := 73) mX7_places dX7_places_72 rfl rfl ?_
    refine aw_imul (q := 74) mX7_places dX7_places_73 rfl (by omega) (by omega) ?_
    refine aw_iconst (q := 75) mX7_places dX7_places_74 rfl rfl ?_
    refine aw_iadd (q := 76) mX7_places dX7_places_75 rfl (by omega) (by omega) ?_
    refine aw_iload_n (q := 77) mX7_places dX7_places_76 rfl rfl ?_
    refine aw_iadd (q := 78) mX7_places dX7_places_77 rfl (by omega) (by omega) ?_
    refine aw_iconst (q := 79) mX7_places dX7_places_78 rfl rfl ?_
    refine aw_iast (q := 80) mX7_places dX7_places_79 rfl kd_47 (by omega) (by omega) (fun μ_79 e_79 => ?_)
    have hl : Lay n μ_79 := by rw [e_79]; exact Lay.setA la_47 hl
    refine aw_iconst (q := 81) mX7_places dX7_places_80 rfl rfl ?_
    refine aw_istore (q := 83) mX7_places dX7_places_81 rfl (by decide) rfl ?_
    have h9 := pX7_places_loop n μr μc p s c rw hlr hBr hRr hLr hAr hnr (by rw [hrw]; exact md_ro_nodup hnd) hc0 (by rw [hch]; exact hc1) hp0 hp1 hs hTc rw [] [] (md_top0 μ rest) μ_79 (9, 0) (9, 0) (9, 0) (9, 0) rfl rfl ht0 (fun hne => by
        obtain ⟨f1, f2⟩ := hfin hne
        refine ⟨f1, ?_⟩
        rw [← hits] at f2
        rw [hBE.1 2 (by decide) (by decide), hBE.1 3 (by decide) (by decide)]
        rw [show rw.length = (μr 32 40).toNat by omega]
        exact f2) (fun a j hs => by
        rw [e_79, am_sn (by unfold Sp at hs; omega)]
        exact hOc a j (fun z => hs (Or.inl z))) (fun j => by rw [e_79, am_sn (Or.inl (by decide))]) (fun i k x hk => by simp at hk) (by
        rw [e_79, am_ss]
        split
        · rename_i he
          unfold md_carry
          rw [he]
          rfl
        · rfl) (by omega)
    refine h9.mono ?_
    rintro r n' μ' ⟨q1, q2, q3, q4, xs, q5, q6⟩
    have hOf : Of (Sq p s rw) μ μ' := fun a j hs => (q3 a j (fun z => hs (Or.inr (Or.inr z)))).trans (hO a j (fun z => hs (by unfold Sr at z; unfold Sq; omega)))
    refine ⟨q1, q2, hOf, ?_, xs, ?_, ?_⟩
    · rw [q4]
      unfold md_carry mr_carry
      cases hgl : rw.getLast? with
      | none => rfl
      | some k =>
        have hne : rw ≠ [] := by intro e; rw [e] at hgl; cases hgl
        have hl0 : 0 < rw.length := List.length_pos_iff.mpr hne
        have hkk : rw[rw.length - 1]? = some k := by rw [← List.getLast?_eq_getElem?]; exact hgl
        have := md_tall_mr (c := c) hBE hAr hnr hkk
        rw [show decide (rw.length - 1 + 1 = rw.length) = true by simp; omega, show ((rw.length - 1 : Nat) : Int) = (rw.length : Int) - 1 by omega] at this
        show μr 35 k + μr 40 k - md_tall μr ((rw.length : Int) - 1) c = μ 35 k + μ 40 k - mr_tall μ c k true
        rw [this, hBE.2 35 _ (by decide) (by decide), hBE.2 40 _ (by decide) (by decide)]
    · have q5 : rw_gr (μr 32 2) (μr 32 3) (md_top0 μ rest) (md_its μr c 0 rw.length) xs := q5
      rw [show rw.length = (μr 32 40).toNat by omega, hits, hBE.1 2 (by decide) (by decide), hBE.1 3 (by decide) (by decide)] at q5
      exact q5
    · intro i k x hk hx
      obtain ⟨g1, g2, g3, g4, g5⟩ := q6 i k x hk hx
      rw [md_tall_mr hBE hAr hnr hk] at g3 g4
      rw [hBE.2 35 _ (by decide) (by decide), hBE.2 40 _ (by decide) (by decide)] at g4
      exact ⟨g1, g2, g3, g4, g5⟩
  have htd : md_top0 μ rest = if 0 < rest then rest + μ 32 3 else 0 := rfl
  refine aw_pop2 (q := 28) mX7_places dX7_places_27 rfl ?_
  refine aw_sipush (q := 31) mX7_places dX7_places_28 rfl rfl ?_
  refine aw_istore (q := 33) mX7_places dX7_places_31 rfl (by decide) rfl ?_
  refine aw_aload_n (q := 34) mX7_places dX7_places_33 rfl rfl ?_
  refine aw_get (t := 2) (ji := 26) (q := 37) mX7_places dX7_places_34 rfl f7_65 rfl kd_32 rfl (ly_32_26 hl) ?_
  refine aw_iconst (q := 38) mX7_places dX7_places_37 rfl rfl ?_
  refine aw_iload_n (q := 39) mX7_places dX7_places_38 rfl rfl ?_
  refine aw_imul (q := 40) mX7_places dX7_places_39 rfl (by omega) (by omega) ?_
  refine aw_iload_n (q := 41) mX7_places dX7_places_40 rfl rfl ?_
  refine aw_iadd (q := 42) mX7_places dX7_places_41 rfl (by omega) (by omega) ?_
  refine aw_iald (q := 43) mX7_places dX7_places_42 rfl kd_47 (by omega) (by omega) e47c ?_
  refine aw_if_le (tgt := 64) (q := 46) mX7_places dX7_places_43 rfl (by decide) (fun c_43 => ?_) (fun c_43 => ?_)
  · rw [if_neg (by omega)] at htd
    rw [htd] at J
    refine aw_iconst (q := 65) mX7_places dX7_places_64 rfl rfl ?_
    refine aw_istore (q := 67) mX7_places dX7_places_65 rfl (by decide) rfl ?_
    rw [htd]
    exact J
  · rw [if_pos (by omega)] at htd
    rw [htd] at J
    refine aw_aload_n (q := 47) mX7_places dX7_places_46 rfl rfl ?_
    refine aw_get (t := 2) (ji := 26) (q := 50) mX7_places dX7_places_47 rfl f7_65 rfl kd_32 rfl (ly_32_26 hl) ?_
    refine aw_iconst (q := 51) mX7_places dX7_places_50 rfl rfl ?_
    refine aw_iload_n (q := 52) mX7_places dX7_places_51 rfl rfl ?_
    refine aw_imul (q := 53) mX7_places dX7_places_52 rfl (by omega) (by omega) ?_
    refine aw_iload_n (q := 54) mX7_places dX7_places_53 rfl rfl ?_
    refine aw_iadd (q := 55) mX7_places dX7_places_54 rfl (by omega) (by omega) ?_
    refine aw_iald (q := 56) mX7_places dX7_places_55 rfl kd_47 (by omega) (by omega) e47c ?_
    refine aw_aload_n (q := 57) mX7_places dX7_places_56 rfl rfl ?_
    refine aw_get (t := 0) (ji := 3) (q := 60) mX7_places dX7_places_57 rfl f7_13 rfl kd_32 rfl e3c ?_
    refine aw_iadd (q := 61) mX7_places dX7_places_60 rfl (by omega) (by omega) ?_
    refine aw_goto (q := 65) mX7_places dX7_places_61 (by decide) ?_
    refine aw_istore (q := 67) mX7_places dX7_places_65 rfl (by decide) rfl ?_
    rw [htd]
    exact J

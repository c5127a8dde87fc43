/-! the class: Book.isShown, isSet; Order -/
theorem pX0_isShown (n : Nat) (μ : am_M) (a : Int) (hl : Lay n μ) (hk_a : am_kind a = (0, 3)) : AC 5 [(2, 1), (2, a)] n μ (PB (am_bit (μ 1 7) (μ a 3) = 1) n μ) := by
  refine AC.of rfl ?_
  refine aw_aload_n (q := 1) mX0_isShown dX0_isShown_0 rfl rfl ?_
  refine aw_get (t := 0) (ji := 7) (q := 4) mX0_isShown dX0_isShown_1 rfl f0_31 rfl kd_1 rfl rfl ?_
  refine aw_aload_n (q := 5) mX0_isShown dX0_isShown_4 rfl rfl ?_
  refine aw_get (t := 0) (ji := 3) (q := 8) mX0_isShown dX0_isShown_5 rfl f0_40 rfl hk_a rfl rfl ?_
  refine aw_ishr (q := 9) mX0_isShown dX0_isShown_8 rfl rfl ?_
  refine aw_iconst (q := 10) mX0_isShown dX0_isShown_9 rfl rfl ?_
  refine aw_iand (q := 11) mX0_isShown dX0_isShown_10 rfl rfl ?_
  refine aw_if_eq (tgt := 18) (q := 14) mX0_isShown dX0_isShown_11 rfl (by decide) (fun c_11 => ?_) (fun c_11 => ?_)
  · refine aw_iconst (q := 19) mX0_isShown dX0_isShown_18 rfl rfl ?_
    refine aw_zret mX0_isShown dX0_isShown_19 (by first | exact Or.inl rfl | exact Or.inr rfl | assumption | omega) ?_
    have h0 : am_bit (μ 1 7) (μ a 3) = 0 := c_11
    exact ⟨0, rfl, rfl, rfl, Or.inr ⟨rfl, by rw [h0]; decide⟩⟩
  · refine aw_iconst (q := 15) mX0_isShown dX0_isShown_14 rfl rfl ?_
    refine aw_goto (q := 19) mX0_isShown dX0_isShown_15 (by decide) ?_
    refine aw_zret mX0_isShown dX0_isShown_19 (by first | exact Or.inl rfl | exact Or.inr rfl | assumption | omega) ?_
    have h0 : ¬ am_bit (μ 1 7) (μ a 3) = 0 := c_11
    exact ⟨1, rfl, rfl, rfl, Or.inl ⟨rfl, (am_bit01 _ _).resolve_left h0⟩⟩
theorem pX0_isSet (n : Nat) (μ : am_M) (a : Int) (hl : Lay n μ) (hk_a : am_kind a = (0, 3)) : AC 6 [(2, 1), (2, a)] n μ (PB (μ 1 8 ≠ 0 ∨ am_bit (μ 1 7) (μ a 3) = 1) n μ) := by
  refine AC.of rfl ?_
  refine aw_aload_n (q := 1) mX0_isSet dX0_isSet_0 rfl rfl ?_
  refine aw_get (t := 0) (ji := 8) (q := 4) mX0_isSet dX0_isSet_1 rfl f0_43 rfl kd_1 rfl rfl ?_
  refine aw_if_ne (tgt := 15) (q := 7) mX0_isSet dX0_isSet_4 rfl (by decide) (fun c_4 => ?_) (fun c_4 => ?_)
  · refine aw_iconst (q := 16) mX0_isSet dX0_isSet_15 rfl rfl ?_
    refine aw_goto (q := 20) mX0_isSet dX0_isSet_16 (by decide) ?_
    refine aw_zret mX0_isSet dX0_isSet_20 (by first | exact Or.inl rfl | exact Or.inr rfl | assumption | omega) ?_
    exact ⟨1, rfl, rfl, rfl, Or.inl ⟨rfl, Or.inl c_4⟩⟩
  · refine aw_aload_n (q := 8) mX0_isSet dX0_isSet_7 rfl rfl ?_
    refine aw_aload_n (q := 9) mX0_isSet dX0_isSet_8 rfl rfl ?_
    refine aw_v1 (ci := 0) (q := 12) mX0_isSet dX0_isSet_9 rfl l0_47 k6_5 rfl kd_1 rfl rfl rfl (pX0_isShown n μ a hl hk_a) (kint (fun y μ3 hy => ?_))
    obtain ⟨hm, hy⟩ := hy
    subst hm
    refine aw_if_eq (tgt := 19) (q := 15) mX0_isSet dX0_isSet_12 rfl (by decide) (fun c_12 => ?_) (fun c_12 => ?_)
    · refine aw_iconst (q := 20) mX0_isSet dX0_isSet_19 rfl rfl ?_
      refine aw_zret mX0_isSet dX0_isSet_20 (by first | exact Or.inl rfl | exact Or.inr rfl | assumption | omega) ?_
      refine ⟨0, rfl, rfl, rfl, Or.inr ⟨rfl, fun z => ?_⟩⟩
      rcases hy with ⟨y1, -⟩ | ⟨-, y2⟩
      · omega
      · exact z.elim c_4 y2
    · refine aw_iconst (q := 16) mX0_isSet dX0_isSet_15 rfl rfl ?_
      refine aw_goto (q := 20) mX0_isSet dX0_isSet_16 (by decide) ?_
      refine aw_zret mX0_isSet dX0_isSet_20 (by first | exact Or.inl rfl | exact Or.inr rfl | assumption | omega) ?_
      refine ⟨1, rfl, rfl, rfl, Or.inl ⟨rfl, Or.inr ?_⟩⟩
      rcases hy with ⟨-, y2⟩ | ⟨y1, -⟩
      · exact y2
      · exact absurd y1 c_12
def So (a j : Int) : Prop := a = 16 ∨ (a = 15 ∧ j = 1)
theorem So_Sk : ∀ a j, So a j → Sk a j := fun a j h => by unfold So at h; unfold Sk; omega
theorem Ar.app {μ : am_M} {a : Int} {p q : List Int} (h : Ar μ a (p ++ q)) : Ar μ a p := fun i x hi => h i x (by rw [List.getElem?_append_left (List.getElem?_eq_some_iff.mp hi).1]; exact hi)
theorem Ar.cat {μ : am_M} {a : Int} {p q : List Int} (h : Ar μ a p) (h2 : Ao μ a (p.length : Int) q) : Ar μ a (p ++ q) := fun i x hi => by
  by_cases hl : i < p.length
  · rw [List.getElem?_append_left hl] at hi; exact h i x hi
  · rw [List.getElem?_append_right (by omega)] at hi
    have := Ao.ar h2 (i - p.length) x hi
    rw [show p.length + (i - p.length) = i by omega] at this
    exact this
theorem Ao.to' {μ μ1 : am_M} {a k k' : Int} {l : List Int} (h : Ao μ a k l) (hk : k = k') (hj : ∀ j, k ≤ j → μ1 a j = μ a j) : Ao μ1 a k' l := by subst hk; exact h.to hj
theorem pX4_insert (n : Nat) (μ : am_M) (a : Int) (X Y : List Int) (hl0 : Lay n μ) (hA : Ar μ 16 (X ++ Y)) (hn : μ 15 1 = ((X ++ Y).length : Int)) (h24 : (X ++ Y).length < 24) (ha : Nr n a) (hv : ∀ x ∈ X ++ Y, Nr n x) (hX : ∀ x ∈ X, μ x 6 ≤ μ a 6) (hY : ∀ x ∈ Y, μ a 6 < μ x 6) : AC 39 [(2, 15), (2, a)] n μ (PV n (fun μ' => Of So μ μ' ∧ Ar μ' 16 (X ++ a :: Y) ∧ μ' 15 1 = ((X ++ Y).length : Int) + 1)) := by
  have hk_a := ha.k
  have ha66 := ha.1
  have J : ∀ (Y2 : List Int) (μ1 : am_M), Y2 = Y → Of So μ μ1 → Ar μ1 16 X → Ao μ1 16 ((X.length : Int) + 1) Y2 → μ1 15 1 = ((X ++ Y).length : Int) → AW none 39 47 [(2, 15), (2, a), (0, (X.length : Int))] [] n μ1 (PV n (fun μ' => Of So μ μ' ∧ Ar μ' 16 (X ++ a :: Y) ∧ μ' 15 1 = ((X ++ Y).length : Int) + 1)) := by
    intro Y2 μ1 hY2 hO hAX hAo hn1
    have hl : Lay n μ1 := hl0.ofS hO So_Sk
    have hlen : (X ++ Y).length = X.length + Y.length := List.length_append
    refine aw_aload_n (q := 48) mX4_insert dX4_insert_47 rfl rfl ?_
    refine aw_get (t := 2) (ji := 0) (q := 51) mX4_insert dX4_insert_48 rfl f4_11 rfl kd_15 rfl (ly_15_0 hl) ?_
    refine aw_iload_n (q := 52) mX4_insert dX4_insert_51 rfl rfl ?_
    refine aw_aload_n (q := 53) mX4_insert dX4_insert_52 rfl rfl ?_
    refine aw_aast (q := 54) mX4_insert dX4_insert_53 rfl kd_16 hk_a (by omega) (by omega) (fun μ_53 e_53 => ?_)
    have hl : Lay n μ_53 := by rw [e_53]; exact Lay.setA la_16 hl
    refine aw_aload_n (q := 55) mX4_insert dX4_insert_54 rfl rfl ?_
    refine aw_dupr (q := 56) mX4_insert dX4_insert_55 rfl ?_
    refine aw_get (t := 0) (ji := 1) (q := 59) mX4_insert dX4_insert_56 rfl f4_17 rfl kd_15 rfl (rd_sn e_53 (Or.inl (by decide)) hn1) ?_
    refine aw_iconst (q := 60) mX4_insert dX4_insert_59 rfl rfl ?_
    refine aw_iadd (q := 61) mX4_insert dX4_insert_60 rfl (by omega) (by omega) ?_
    refine aw_put (t := 0) (ji := 1) (q := 64) mX4_insert dX4_insert_61 rfl f4_17 rfl kd_15 rfl (Or.inl rfl) (Or.inl (by decide)) (fun μ_61 e_61 => ?_)
    have hl : Lay n μ_61 := by rw [e_61]; exact Lay.setF lf_15_1 hl
    refine aw_vret mX4_insert dX4_insert_64 ?_
    refine ⟨rfl, rfl, by rw [e_61, e_53]; exact (hO.set (Or.inl rfl)).set (Or.inr ⟨rfl, rfl⟩), ?_, by rw [e_61, am_ss]⟩
    rw [← hY2]
    refine Ar.cat (fun i x hi => ?_) ⟨?_, ?_⟩
    · have := (List.getElem?_eq_some_iff.mp hi).1
      rw [e_61, am_sn (Or.inl (by decide)), e_53, am_sn (Or.inr (by omega))]
      exact hAX i x hi
    · rw [e_61, am_sn (Or.inl (by decide)), e_53, am_ss]
    · exact hAo.to (fun j hj => by rw [e_61, am_sn (Or.inl (by decide)), e_53, am_sn (Or.inr (by omega))])
  have F : ∀ (d : Nat) (Y1 Y2 : List Int) (μ1 : am_M), Y1.length = d → Y = Y1 ++ Y2 → Of So μ μ1 → Ar μ1 16 (X ++ Y1) → Ao μ1 16 (((X ++ Y1).length : Int) + 1) Y2 → μ1 15 1 = ((X ++ Y).length : Int) → AW none 39 5 [(2, 15), (2, a), (0, ((X ++ Y1).length : Int))] [] n μ1 (PV n (fun μ' => Of So μ μ' ∧ Ar μ' 16 (X ++ a :: Y) ∧ μ' 15 1 = ((X ++ Y).length : Int) + 1)) := by
    intro d
    induction d with
    | zero =>
      intro Y1 Y2 μ1 hd hY12 hO hA1 hAo hn1
      have : Y1 = [] := List.length_eq_zero_iff.mp hd
      subst this
      rw [List.append_nil] at hA1 hAo ⊢
      have hl : Lay n μ1 := hl0.ofS hO So_Sk
      have hj := J Y2 μ1 (by rw [hY12]; rfl) hO hA1 hAo hn1
      refine aw_iload_n (q := 6) mX4_insert dX4_insert_5 rfl rfl ?_
      refine aw_if_le (tgt := 47) (q := 9) mX4_insert dX4_insert_6 rfl (by decide) (fun c_6 => ?_) (fun c_6 => ?_)
      · exact hj
      · rcases List.eq_nil_or_concat X with hp | ⟨p, x, hp⟩
        · exact absurd c_6 (by rw [hp]; simp)
        rw [List.concat_eq_append] at hp
        have hxl : X.length = p.length + 1 := by rw [hp]; simp
        have hXY : (X ++ Y).length = X.length + Y.length := List.length_append
        have hxr := hv x (by rw [hp]; simp)
        have hk_x := hxr.k
        have hx66 := hxr.1
        have er : μ1 16 ((X.length : Int) - 1) = x := by
          rw [show (X.length : Int) - 1 = (p.length : Int) by omega]
          exact Ar.mid (s := []) (by rw [← hp]; exact hA1)
        have e6 : μ1 x 6 = μ x 6 := hO x 6 (by unfold So; omega)
        have e6a : μ1 a 6 = μ a 6 := hO a 6 (by unfold So; omega)
        have hle := hX x (by rw [hp]; simp)
        refine aw_aload_n (q := 10) mX4_insert dX4_insert_9 rfl rfl ?_
        refine aw_get (t := 2) (ji := 0) (q := 13) mX4_insert dX4_insert_10 rfl f4_11 rfl kd_15 rfl (ly_15_0 hl) ?_
        refine aw_iload_n (q := 14) mX4_insert dX4_insert_13 rfl rfl ?_
        refine aw_iconst (q := 15) mX4_insert dX4_insert_14 rfl rfl ?_
        refine aw_isub (q := 16) mX4_insert dX4_insert_15 rfl (by omega) (by omega) ?_
        refine aw_aald (q := 17) mX4_insert dX4_insert_16 rfl kd_16 (by omega) (by omega) er ?_
        refine aw_get (t := 0) (ji := 6) (q := 20) mX4_insert dX4_insert_17 rfl f4_35 rfl hk_x rfl e6 ?_
        refine aw_aload_n (q := 21) mX4_insert dX4_insert_20 rfl rfl ?_
        refine aw_get (t := 0) (ji := 6) (q := 24) mX4_insert dX4_insert_21 rfl f4_35 rfl hk_a rfl e6a ?_
        refine aw_icmp_le (tgt := 47) (q := 27) mX4_insert dX4_insert_24 rfl (by decide) (fun c_24 => ?_) (fun c_24 => ?_)
        · exact hj
        · exact absurd c_24 (by omega)
    | succ d ih =>
      intro Y1 Y2 μ1 hd hY12 hO hA1 hAo hn1
      have hl : Lay n μ1 := hl0.ofS hO So_Sk
      rcases List.eq_nil_or_concat Y1 with hp | ⟨p, x, hp⟩
      · rw [hp] at hd; cases hd
      rw [List.concat_eq_append] at hp
      have hlen : (X ++ Y1).length = (X ++ p).length + 1 := by rw [hp]; simp; omega
      have hXY : (X ++ Y).length = (X ++ Y1).length + Y2.length := by rw [hY12]; simp; omega
      have hxr := hv x (by rw [hY12, hp]; simp)
      have hk_x := hxr.k
      have hx66 := hxr.1
      have er : μ1 16 (((X ++ Y1).length : Int) - 1) = x := by
        rw [show ((X ++ Y1).length : Int) - 1 = ((X ++ p).length : Int) by omega]
        exact Ar.mid (s := []) (by rw [List.append_assoc, ← hp]; exact hA1)
      have e6 : μ1 x 6 = μ x 6 := hO x 6 (by unfold So; omega)
      have e6a : μ1 a 6 = μ a 6 := hO a 6 (by unfold So; omega)
      have hlt := hY x (by rw [hY12, hp]; simp)
      refine aw_iload_n (q := 6) mX4_insert dX4_insert_5 rfl rfl ?_
      refine aw_if_le (tgt := 47) (q := 9) mX4_insert dX4_insert_6 rfl (by decide) (fun c_6 => ?_) (fun c_6 => ?_)
      · exact absurd c_6 (by omega)
      · refine aw_aload_n (q := 10) mX4_insert dX4_insert_9 rfl rfl ?_
        refine aw_get (t := 2) (ji := 0) (q := 13) mX4_insert dX4_insert_10 rfl f4_11 rfl kd_15 rfl (ly_15_0 hl) ?_
        refine aw_iload_n (q := 14) mX4_insert dX4_insert_13 rfl rfl ?_
        refine aw_iconst (q := 15) mX4_insert dX4_insert_14 rfl rfl ?_
        refine aw_isub (q := 16) mX4_insert dX4_insert_15 rfl (by omega) (by omega) ?_
        refine aw_aald (q := 17) mX4_insert dX4_insert_16 rfl kd_16 (by omega) (by omega) er ?_
        refine aw_get (t := 0) (ji := 6) (q := 20) mX4_insert dX4_insert_17 rfl f4_35 rfl hk_x rfl e6 ?_
        refine aw_aload_n (q := 21) mX4_insert dX4_insert_20 rfl rfl ?_
        refine aw_get (t := 0) (ji := 6) (q := 24) mX4_insert dX4_insert_21 rfl f4_35 rfl hk_a rfl e6a ?_
        refine aw_icmp_le (tgt := 47) (q := 27) mX4_insert dX4_insert_24 rfl (by decide) (fun c_24 => ?_) (fun c_24 => ?_)
        · exact absurd c_24 (by omega)
        · refine aw_aload_n (q := 28) mX4_insert dX4_insert_27 rfl rfl ?_
          refine aw_get (t := 2) (ji := 0) (q := 31) mX4_insert dX4_insert_28 rfl f4_11 rfl kd_15 rfl (ly_15_0 hl) ?_
          refine aw_iload_n (q := 32) mX4_insert dX4_insert_31 rfl rfl ?_
          refine aw_aload_n (q := 33) mX4_insert dX4_insert_32 rfl rfl ?_
          refine aw_get (t := 2) (ji := 0) (q := 36) mX4_insert dX4_insert_33 rfl f4_11 rfl kd_15 rfl (ly_15_0 hl) ?_
          refine aw_iload_n (q := 37) mX4_insert dX4_insert_36 rfl rfl ?_
          refine aw_iconst (q := 38) mX4_insert dX4_insert_37 rfl rfl ?_
          refine aw_isub (q := 39) mX4_insert dX4_insert_38 rfl (by omega) (by omega) ?_
          refine aw_aald (q := 40) mX4_insert dX4_insert_39 rfl kd_16 (by omega) (by omega) er ?_
          refine aw_aast (q := 41) mX4_insert dX4_insert_40 rfl kd_16 hk_x (by omega) (by omega) (fun μ_40 e_40 => ?_)
          have hl : Lay n μ_40 := by rw [e_40]; exact Lay.setA la_16 hl
          refine aw_iinc (q := 44) mX4_insert dX4_insert_41 rfl rfl (by decide) (by omega) (by omega) rfl ?_
          refine aw_goto (q := 5) mX4_insert dX4_insert_44 (by decide) ?_
          have h9 := ih p (x :: Y2) μ_40 (by rw [hp] at hd; simpa using hd) (by rw [hY12, hp]; simp) (by rw [e_40]; exact hO.set (Or.inl rfl)) (by
            intro i z hi
            have := (List.getElem?_eq_some_iff.mp hi).1
            rw [e_40, am_sn (Or.inr (by omega))]
            refine hA1 i z ?_
            rw [hp, ← List.append_assoc, List.getElem?_append_left this]
            exact hi) (by
            refine ⟨?_, hAo.to' ?_ ?_⟩
            · rw [e_40, show ((X ++ p).length : Int) + 1 = ((X ++ Y1).length : Int) by omega, am_ss]
            · omega
            · intro j hj
              rw [e_40, am_sn (Or.inr (by omega))]) (by rw [e_40, am_sn (Or.inl (by decide))]; exact hn1)
          rw [show ((X ++ Y1).length : Int) + -1 = ((X ++ p).length : Int) by omega]
          exact h9
  have hl := hl0
  refine AC.of rfl ?_
  refine aw_aload_n (q := 1) mX4_insert dX4_insert_0 rfl rfl ?_
  refine aw_get (t := 0) (ji := 1) (q := 4) mX4_insert dX4_insert_1 rfl f4_17 rfl kd_15 rfl hn ?_
  refine aw_istore_n (q := 5) mX4_insert dX4_insert_4 rfl (by decide) rfl ?_
  exact F Y.length Y [] μ rfl (by simp) Of.rf hA trivial hn
/-- the notes of the first M lines among the first m notes -/
def md_hm (μ : am_M) (m : Nat) : Nat → List Int
  | 0 => []
  | M + 1 => md_hm μ m M ++ md_nt μ (0 + (M : Int)) m
theorem md_hm_hr {μ : am_M} : ∀ M : Nat, md_hm μ (μ 32 8).toNat M = md_hr μ 0 M := by
  intro M
  induction M with
  | zero => rfl
  | succ M ih => show _ ++ _ = _ ++ _; rw [ih]
theorem md_nt_no {μ : am_M} {l : Int} {m : Nat} (h : (decide (μ 34 (m : Int) = l) && md_setB μ (m : Int)) = false) : md_nt μ l (m + 1) = md_nt μ l m := by
  show _ ++ (if _ then _ else _) = _
  rw [h]
  simp
theorem md_nt_yes {μ : am_M} {l : Int} {m : Nat} (h : (decide (μ 34 (m : Int) = l) && md_setB μ (m : Int)) = true) : md_nt μ l (m + 1) = md_nt μ l m ++ [(m : Int)] := by
  show _ ++ (if _ then _ else _) = _
  rw [h]
  simp
theorem md_hm_no {μ : am_M} {m : Nat} (h : md_setB μ (m : Int) = false) : ∀ M : Nat, md_hm μ (m + 1) M = md_hm μ m M := by
  intro M
  induction M with
  | zero => rfl
  | succ M ih => show _ ++ _ = _ ++ _; rw [ih, md_nt_no (by rw [h]; simp)]
theorem md_hm_lt {μ : am_M} {m : Nat} : ∀ M : Nat, (M : Int) ≤ μ 34 (m : Int) → md_hm μ (m + 1) M = md_hm μ m M := by
  intro M
  induction M with
  | zero => intro _; rfl
  | succ M ih =>
    intro h
    show _ ++ _ = _ ++ _
    rw [ih (by omega), md_nt_no (by
      have : ¬ μ 34 (m : Int) = 0 + (M : Int) := by omega
      simp [this]
      intro z; omega)]
theorem md_hm_mem {μ : am_M} {m : Nat} : ∀ {M : Nat} {k : Int}, k ∈ md_hm μ m M → 0 ≤ k ∧ k < (m : Int) ∧ 0 ≤ μ 34 k ∧ μ 34 k < (M : Int) := by
  intro M
  induction M with
  | zero => intro k h; simp [md_hm] at h
  | succ M ih =>
    intro k h
    rcases List.mem_append.mp h with h | h
    · have := ih h; omega
    · have := md_nt_mem h; omega
/-- one note more, behind those of its line -/
theorem md_hm_split {μ : am_M} {m L : Nat} (hL : (L : Int) = μ 34 (m : Int)) (hs : md_setB μ (m : Int) = true) : ∀ j : Nat, ∃ Y, md_hm μ m (L + 1 + j) = md_hm μ m (L + 1) ++ Y ∧ md_hm μ (m + 1) (L + 1 + j) = md_hm μ m (L + 1) ++ (m : Int) :: Y ∧ ∀ k ∈ Y, (L : Int) < μ 34 k := by
  intro j
  induction j with
  | zero =>
    refine ⟨[], by simp, ?_, fun k h => by simp at h⟩
    show md_hm μ (m + 1) L ++ md_nt μ (0 + (L : Int)) (m + 1) = _
    rw [md_hm_lt L (by omega), md_nt_yes (by rw [hs]; simp; omega)]
    show _ = (md_hm μ m L ++ md_nt μ (0 + (L : Int)) m) ++ [(m : Int)]
    rw [List.append_assoc]
  | succ j ih =>
    obtain ⟨Y, h1, h2, h3⟩ := ih
    refine ⟨Y ++ md_nt μ (0 + ((L + 1 + j : Nat) : Int)) m, ?_, ?_, fun k hk => ?_⟩
    · show md_hm μ m (L + 1 + j) ++ md_nt μ (0 + ((L + 1 + j : Nat) : Int)) m = _
      rw [h1, List.append_assoc]
    · show md_hm μ (m + 1) (L + 1 + j) ++ md_nt μ (0 + ((L + 1 + j : Nat) : Int)) (m + 1) = _
      rw [h2, md_nt_no (by
        have : ¬ μ 34 (m : Int) = 0 + ((L + 1 + j : Nat) : Int) := by omega
        simp [this]
        intro z; omega)]
      simp
    · rcases List.mem_append.mp hk with hk | hk
      · exact h3 k hk
      · have := md_nt_mem hk; omega
theorem pX4_gather (n : Nat) (μ : am_M) (hl0 : Lay n μ) (hB : Bk μ) (hC : Cb n μ) : AC 38 [(2, 15), (2, 1)] n μ (PV n (fun μ' => Of So μ μ' ∧ Ar μ' 16 ((md_hr μ 0 (μ 32 7).toNat).map nf) ∧ μ' 15 1 = ((md_hr μ 0 (μ 32 7).toNat).length : Int))) := by
  obtain ⟨b1, b2, b3, b4, b5, b6, b7, b8, b9⟩ := id hB
  obtain ⟨cn, ⟨c2, c3, c4, c5, c6, c7, c8⟩, ch, ck⟩ := id hC
  have hlenb : ∀ m : Nat, (m : Int) ≤ μ 32 8 → (md_hm μ m (μ 32 7).toNat).length ≤ m := by
    intro m
    have : ∀ (m : Nat), (m : Int) ≤ μ 32 8 → (md_hm μ m (μ 32 7).toNat).length ≤ m := by
      intro m
      induction m with
      | zero =>
        intro _
        have : ∀ M : Nat, md_hm μ 0 M = [] := by
          intro M
          induction M with
          | zero => rfl
          | succ M ih => show md_hm μ 0 M ++ [] = []; rw [ih]; rfl
        rw [this]; exact Nat.le_refl 0
      | succ m ih =>
        intro h
        have h1 := ih (by omega)
        by_cases hs : md_setB μ (m : Int) = true
        · obtain ⟨n1, -⟩ := b9 (m : Int) (by omega) (by omega)
          obtain ⟨Y, y1, y2, -⟩ := md_hm_split (μ := μ) (m := m) (L := (μ 34 (m : Int)).toNat) (by omega) hs ((μ 32 7).toNat - (μ 34 (m : Int)).toNat - 1)
          rw [show (μ 34 (m : Int)).toNat + 1 + ((μ 32 7).toNat - (μ 34 (m : Int)).toNat - 1) = (μ 32 7).toNat by omega] at y1 y2
          rw [y1] at h1
          rw [y2]
          simp at h1 ⊢
          omega
        · rw [md_hm_no (by simpa using hs)]; omega
    exact this m
  have F : ∀ (d m : Nat) (μ1 : am_M) (v3 : am_V), (m : Int) + d = μ 32 8 → Of So μ μ1 → Ar μ1 16 ((md_hm μ m (μ 32 7).toNat).map nf) → μ1 15 1 = ((md_hm μ m (μ 32 7).toNat).length : Int) → AW none 38 7 [(2, 15), (2, 1), (0, (m : Int)), v3] [] n μ1 (PV n (fun μ' => Of So μ μ' ∧ Ar μ' 16 ((md_hr μ 0 (μ 32 7).toNat).map nf) ∧ μ' 15 1 = ((md_hr μ 0 (μ 32 7).toNat).length : Int))) := by
    intro d
    induction d with
    | zero =>
      intro m μ1 v3 hm hO hA hn
      have hl : Lay n μ1 := hl0.ofS hO So_Sk
      have e3 : μ1 1 3 = μ 32 8 := (hO 1 3 (by unfold So; omega)).trans c3
      refine aw_iload_n (q := 8) mX4_gather dX4_gather_7 rfl rfl ?_
      refine aw_aload_n (q := 9) mX4_gather dX4_gather_8 rfl rfl ?_
      refine aw_get (t := 0) (ji := 3) (q := 12) mX4_gather dX4_gather_9 rfl f4_21 rfl kd_1 rfl e3 ?_
      refine aw_icmp_ge (tgt := 53) (q := 15) mX4_gather dX4_gather_12 rfl (by decide) (fun c_12 => ?_) (fun c_12 => ?_)
      · refine aw_vret mX4_gather dX4_gather_53 ?_
        have em : (μ 32 8).toNat = m := by omega
        rw [← em, md_hm_hr] at hA hn
        exact ⟨rfl, rfl, hO, hA, hn⟩
      · exact absurd c_12 (by omega)
    | succ d ih =>
      intro m μ1 v3 hm hO hA hn
      have hl : Lay n μ1 := hl0.ofS hO So_Sk
      have hC1 := hC.k hO So_Sk
      have e3 : μ1 1 3 = μ 32 8 := (hO 1 3 (by unfold So; omega)).trans c3
      obtain ⟨k1, k2⟩ := ck (m : Int) (by omega) (by omega)
      have e3m : μ1 3 (m : Int) = nf (m : Int) := (hO 3 _ (by unfold So; omega)).trans k1
      have hr : Nr n (nf (m : Int)) := nf_r hC (by omega) (by omega)
      obtain ⟨a, ha⟩ : ∃ a, a = nf (m : Int) := ⟨_, rfl⟩
      rw [← ha] at hr e3m
      have hk_a := hr.k
      have ha66 := hr.1
      have e8 : μ1 1 8 = μ 32 6 := (hO 1 8 (by unfold So; omega)).trans c8
      have e7 : μ1 1 7 = μ 32 5 := (hO 1 7 (by unfold So; omega)).trans c7
      have ea3 : μ1 a 3 = μ 38 (m : Int) := (hO a 3 (by unfold So; omega)).trans (by rw [ha]; exact k2.2.2.2.1)
      have ea6 : μ1 a 6 = μ 34 (m : Int) := (hO a 6 (by unfold So; omega)).trans (by rw [ha]; exact k2.2.2.2.2.2.1)
      have hset := pX0_isSet n μ1 a hl hk_a
      rw [e8, e7, ea3] at hset
      have hsb : md_setB μ (m : Int) = true ↔ (μ 32 6 ≠ 0 ∨ am_bit (μ 32 5) (μ 38 (m : Int)) = 1) := by unfold md_setB; simp
      have N : ∀ (μ2 : am_M) (w : am_V), Of So μ μ2 → Ar μ2 16 ((md_hm μ (m + 1) (μ 32 7).toNat).map nf) → μ2 15 1 = ((md_hm μ (m + 1) (μ 32 7).toNat).length : Int) → AW none 38 47 [(2, 15), (2, 1), (0, (m : Int)), w] [] n μ2 (PV n (fun μ' => Of So μ μ' ∧ Ar μ' 16 ((md_hr μ 0 (μ 32 7).toNat).map nf) ∧ μ' 15 1 = ((md_hr μ 0 (μ 32 7).toNat).length : Int))) := by
        intro μ2 w h1 h2 h3
        refine aw_iinc (q := 50) mX4_gather dX4_gather_47 rfl rfl (by decide) (by omega) (by omega) rfl ?_
        refine aw_goto (q := 7) mX4_gather dX4_gather_50 (by decide) ?_
        exact ih (m + 1) μ2 w (by omega) h1 h2 h3
      refine aw_iload_n (q := 8) mX4_gather dX4_gather_7 rfl rfl ?_
      refine aw_aload_n (q := 9) mX4_gather dX4_gather_8 rfl rfl ?_
      refine aw_get (t := 0) (ji := 3) (q := 12) mX4_gather dX4_gather_9 rfl f4_21 rfl kd_1 rfl e3 ?_
      refine aw_icmp_ge (tgt := 53) (q := 15) mX4_gather dX4_gather_12 rfl (by decide) (fun c_12 => ?_) (fun c_12 => ?_)
      · exact absurd c_12 (by omega)
      · refine aw_aload_n (q := 16) mX4_gather dX4_gather_15 rfl rfl ?_
        refine aw_get (t := 2) (ji := 1) (q := 19) mX4_gather dX4_gather_16 rfl f4_26 rfl kd_1 rfl (ly_1_1 hl) ?_
        refine aw_iload_n (q := 20) mX4_gather dX4_gather_19 rfl rfl ?_
        refine aw_aald (q := 21) mX4_gather dX4_gather_20 rfl kd_3 (by omega) (by omega) e3m ?_
        refine aw_astore_n (q := 22) mX4_gather dX4_gather_21 rfl (by decide) rfl ?_
        refine aw_aload_n (q := 23) mX4_gather dX4_gather_22 rfl rfl ?_
        refine aw_aload_n (q := 24) mX4_gather dX4_gather_23 rfl rfl ?_
        refine aw_v1 (ci := 0) (q := 27) mX4_gather dX4_gather_24 rfl l4_27 k38_6 rfl kd_1 rfl rfl rfl (hset) (kint (fun y μ3 hy => ?_))
        obtain ⟨hm3, hy⟩ := hy
        subst hm3
        refine aw_if_eq (tgt := 47) (q := 30) mX4_gather dX4_gather_27 rfl (by decide) (fun c_27 => ?_) (fun c_27 => ?_)
        · have hns : md_setB μ (m : Int) = false := by
            have : ¬ md_setB μ (m : Int) = true := fun z => by
              rcases hy with ⟨y1, -⟩ | ⟨-, y2⟩
              · omega
              · exact y2 (hsb.mp z)
            simpa using this
          exact N μ3 _ hO (by rw [md_hm_no hns]; exact hA) (by rw [md_hm_no hns]; exact hn)
        · have hs : md_setB μ (m : Int) = true := by
            rcases hy with ⟨-, y2⟩ | ⟨y1, -⟩
            · exact hsb.mpr y2
            · exact absurd y1 c_27
          obtain ⟨n1, -⟩ := b9 (m : Int) (by omega) (by omega)
          obtain ⟨Y, y1, y2, y3⟩ := md_hm_split (μ := μ) (m := m) (L := (μ 34 (m : Int)).toNat) (by omega) hs ((μ 32 7).toNat - (μ 34 (m : Int)).toNat - 1)
          rw [show (μ 34 (m : Int)).toNat + 1 + ((μ 32 7).toNat - (μ 34 (m : Int)).toNat - 1) = (μ 32 7).toNat by omega] at y1 y2
          have hlm := hlenb m (by omega)
          rw [y1] at hA hn hlm
          rw [List.map_append] at hA
          obtain ⟨X, hX⟩ : ∃ X, X = md_hm μ m ((μ 34 (m : Int)).toNat + 1) := ⟨_, rfl⟩
          rw [← hX] at hA hn hlm y2 y1
          have hmm : ∀ k ∈ X ++ Y, 0 ≤ k ∧ k < (m : Int) := fun k hk => by
            have := md_hm_mem (μ := μ) (m := m) (M := (μ 32 7).toNat) (k := k) (by rw [y1]; exact hk)
            omega
          have e6 : ∀ k, 0 ≤ k → k < (m : Int) → μ3 (nf k) 6 = μ 34 k := fun k h0 h1 => (hO (nf k) 6 (by unfold So nf; omega)).trans (ck k h0 (by omega)).2.2.2.2.2.2.1
          have hins := pX4_insert n μ3 a (X.map nf) (Y.map nf) hl hA (by rw [hn]; simp) (by simp at hlm ⊢; omega) hr (fun x hx => by
            rw [← List.map_append] at hx
            obtain ⟨k, q1, q2⟩ := List.mem_map.mp hx
            rw [← q2]
            have := hmm k q1
            exact nf_r hC this.1 (by omega)) (fun x hx => by
            obtain ⟨k, q1, q2⟩ := List.mem_map.mp hx
            have q3 := hmm k (List.mem_append_left _ q1)
            rw [← q2, e6 k q3.1 q3.2, ea6]
            rw [hX] at q1
            have := md_hm_mem q1
            omega) (fun x hx => by
            obtain ⟨k, q1, q2⟩ := List.mem_map.mp hx
            have q3 := hmm k (List.mem_append_right _ q1)
            rw [← q2, e6 k q3.1 q3.2, ea6]
            have := y3 k q1
            omega)
          refine aw_aload_n (q := 31) mX4_gather dX4_gather_30 rfl rfl ?_
          refine aw_get (t := 0) (ji := 1) (q := 34) mX4_gather dX4_gather_31 rfl f4_17 rfl kd_15 rfl hn ?_
          refine aw_aload_n (q := 35) mX4_gather dX4_gather_34 rfl rfl ?_
          refine aw_get (t := 2) (ji := 0) (q := 38) mX4_gather dX4_gather_35 rfl f4_11 rfl kd_15 rfl (ly_15_0 hl) ?_
          refine aw_alen (zi := 24) (q := 39) mX4_gather dX4_gather_38 rfl kd_16 (by decide) rfl ?_
          refine aw_icmp_ge (tgt := 47) (q := 42) mX4_gather dX4_gather_39 rfl (by decide) (fun c_39 => ?_) (fun c_39 => ?_)
          · exact absurd c_39 (by show ¬ (24 : Int) ≤ ((X ++ Y).length : Int); omega)
          · refine aw_aload_n (q := 43) mX4_gather dX4_gather_42 rfl rfl ?_
            refine aw_aload_n (q := 44) mX4_gather dX4_gather_43 rfl rfl ?_
            refine aw_v1 (ci := 4) (q := 47) mX4_gather dX4_gather_44 rfl l4_31 k38_39 rfl kd_15 rfl rfl rfl (hins) (kvoid (fun μ4 h4 => ?_))
            obtain ⟨p1, p2, p3⟩ := h4
            refine N μ4 _ (hO.tr p1) ?_ ?_
            · rw [y2]
              rw [ha] at p2
              simpa using p2
            · rw [y2, p3]; simp; omega
  have hl := hl0
  have hm0 : ∀ M : Nat, md_hm μ 0 M = [] := by
    intro M
    induction M with
    | zero => rfl
    | succ M ih => show md_hm μ 0 M ++ [] = []; rw [ih]; rfl
  refine AC.of rfl ?_
  refine aw_aload_n (q := 1) mX4_gather dX4_gather_0 rfl rfl ?_
  refine aw_iconst (q := 2) mX4_gather dX4_gather_1 rfl rfl ?_
  refine aw_put (t := 0) (ji := 1) (q := 5) mX4_gather dX4_gather_2 rfl f4_17 rfl kd_15 rfl (Or.inl rfl) (Or.inl (by decide)) (fun μ_2 e_2 => ?_)
  have hl : Lay n μ_2 := by rw [e_2]; exact Lay.setF lf_15_1 hl
  refine aw_iconst (q := 6) mX4_gather dX4_gather_5 rfl rfl ?_
  refine aw_istore_n (q := 7) mX4_gather dX4_gather_6 rfl (by decide) rfl ?_
  exact F (μ 32 8).toNat 0 μ_2 _ (by omega) (by rw [e_2]; exact Of.rf.set (Or.inr ⟨rfl, rfl⟩)) (by rw [hm0]; exact Ar.nil) (by rw [hm0, e_2, am_ss]; rfl)

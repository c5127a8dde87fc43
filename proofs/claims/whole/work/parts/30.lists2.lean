theorem pX7_gather (n : Nat) (μ : am_M) (fr many : Int) (hl0 : Lay n μ) (hB : Bk μ) (hf : 0 ≤ fr) (hm0 : 0 ≤ many) (hmm : fr + many ≤ 60) : AC 110 [(2, 32), (0, fr), (0, many)] n μ (PI n (fun x μ' => x = md_ei μ (md_hr μ fr many.toNat) ∧ Of Sg μ μ' ∧ Ar μ' 56 (md_hr μ fr many.toNat) ∧ μ' 32 39 = ((md_hr μ fr many.toNat).length : Int))) := by
  obtain ⟨b1, b2, b3, b4, b5, b6, b7, b8, b9⟩ := id hB
  have F : ∀ (d m : Nat) (μ1 : am_M) (v5 : am_V), (m : Int) + d = many → Of Sg μ μ1 → Ar μ1 56 (md_hr μ fr m) → μ1 32 39 = ((md_hr μ fr m).length : Int) → AW none 110 10 [(2, 32), (0, fr), (0, many), (0, md_ei μ (md_hr μ fr m)), (0, fr + (m : Int)), v5] [] n μ1 (PI n (fun x μ' => x = md_ei μ (md_hr μ fr many.toNat) ∧ Of Sg μ μ' ∧ Ar μ' 56 (md_hr μ fr many.toNat) ∧ μ' 32 39 = ((md_hr μ fr many.toNat).length : Int))) := by
    intro d
    induction d with
    | zero =>
      intro m μ1 v5 hm hO hA hn
      refine aw_iload (q := 12) mX7_gather dX7_gather_10 rfl rfl ?_
      refine aw_iload_n (q := 13) mX7_gather dX7_gather_12 rfl rfl ?_
      refine aw_iload_n (q := 14) mX7_gather dX7_gather_13 rfl rfl ?_
      refine aw_iadd (q := 15) mX7_gather dX7_gather_14 rfl (by omega) (by omega) ?_
      refine aw_icmp_ge (tgt := 113) (q := 18) mX7_gather dX7_gather_15 rfl (by decide) (fun c_15 => ?_) (fun c_15 => ?_)
      · refine aw_iload_n (q := 114) mX7_gather dX7_gather_113 rfl rfl ?_
        refine aw_iret mX7_gather dX7_gather_114 ?_
        have e : many.toNat = m := by omega
        rw [e]
        exact ⟨_, rfl, rfl, rfl, hO, hA, hn⟩
      · exact absurd c_15 (by omega)
    | succ d ih =>
      intro m μ1 v5 hm hO hA hn
      refine aw_iload (q := 12) mX7_gather dX7_gather_10 rfl rfl ?_
      refine aw_iload_n (q := 13) mX7_gather dX7_gather_12 rfl rfl ?_
      refine aw_iload_n (q := 14) mX7_gather dX7_gather_13 rfl rfl ?_
      refine aw_iadd (q := 15) mX7_gather dX7_gather_14 rfl (by omega) (by omega) ?_
      refine aw_icmp_ge (tgt := 113) (q := 18) mX7_gather dX7_gather_15 rfl (by decide) (fun c_15 => ?_) (fun c_15 => ?_)
      · exact absurd c_15 (by omega)
      · refine aw_iconst (q := 19) mX7_gather dX7_gather_18 rfl rfl ?_
        refine aw_istore (q := 21) mX7_gather dX7_gather_19 rfl (by decide) rfl ?_
        have h9 := pX7_gather_in n μ fr many hl0 hB m (by omega) hmm hf (PI n (fun x μ' => x = md_ei μ (md_hr μ fr many.toNat) ∧ Of Sg μ μ' ∧ Ar μ' 56 (md_hr μ fr many.toNat) ∧ μ' 32 39 = ((md_hr μ fr many.toNat).length : Int))) (by
          intro μ2 z hO2 hA2 hn2
          refine aw_iinc (q := 110) mX7_gather dX7_gather_107 rfl rfl (by decide) (by omega) (by omega) rfl ?_
          refine aw_goto (q := 10) mX7_gather dX7_gather_110 (by decide) ?_
          have h8 := ih (m + 1) μ2 (0, z) (by omega) hO2 hA2 hn2
          rw [show fr + ((m + 1 : Nat) : Int) = fr + (m : Int) + 1 by omega] at h8
          exact h8) (μ 32 8).toNat 0 μ1 (by omega) hO (by rw [md_nt, List.append_nil]; exact hA) (by rw [md_nt, List.append_nil]; exact hn)
        rw [md_nt, List.append_nil] at h9
        exact h9
  refine AC.of rfl ?_
  have hl := hl0
  refine aw_aload_n (q := 1) mX7_gather dX7_gather_0 rfl rfl ?_
  refine aw_iconst (q := 2) mX7_gather dX7_gather_1 rfl rfl ?_
  refine aw_put (t := 0) (ji := 39) (q := 5) mX7_gather dX7_gather_2 rfl f7_166 rfl kd_32 rfl (Or.inl rfl) (Or.inl (by decide)) (fun μ_2 e_2 => ?_)
  have hl : Lay n μ_2 := by rw [e_2]; exact Lay.setF lf_32_39 hl
  refine aw_iconst (q := 6) mX7_gather dX7_gather_5 rfl rfl ?_
  refine aw_istore_n (q := 7) mX7_gather dX7_gather_6 rfl (by decide) rfl ?_
  refine aw_iload_n (q := 8) mX7_gather dX7_gather_7 rfl rfl ?_
  refine aw_istore (q := 10) mX7_gather dX7_gather_8 rfl (by decide) rfl ?_
  have h9 := F many.toNat 0 μ_2 (9, 0) (by omega) (by rw [e_2]; exact Of.rf.set (Or.inr ⟨rfl, rfl⟩)) Ar.nil (rd_ss e_2)
  rw [show fr + ((0 : Nat) : Int) = fr by omega] at h9
  exact h9
/-- the sides, one behind the other, by the bits -/
def md_sds (μ : am_M) (bits : Int) : Int → List Int → List Int
  | _, [] => []
  | k, x :: r => if μ 37 x < 2 then μ 37 x :: md_sds μ bits k r else am_bit bits (k - 1) :: md_sds μ bits (k - 1) r
theorem md_sds_len {μ : am_M} {bits : Int} : ∀ {l : List Int} {k : Int}, (md_sds μ bits k l).length = l.length := by
  intro l
  induction l with
  | nil => intro k; rfl
  | cons x r ih => intro k; unfold md_sds; split <;> simp [ih]
theorem pX7_sides (n : Nat) (μ : am_M) (ei bits : Int) (H : List Int) (hl0 : Lay n μ) (hB : Bk μ) (hA : Ar μ 56 H) (hn : μ 32 39 = (H.length : Int)) (hH : H.length ≤ 24) (hv : ∀ k ∈ H, 0 ≤ k ∧ k < μ 32 8) (he : -100 ≤ ei ∧ ei ≤ 100) : AC 111 [(2, 32), (0, ei), (0, bits)] n μ (PV n (fun μ' => Off 57 μ μ' ∧ Ar μ' 57 (md_sds μ bits ei H))) := by
  obtain ⟨b1, b2, b3, b4, b5, b6, b7, b8, b9⟩ := id hB
  have F : ∀ (suf pre out : List Int) (k : Int) (μ1 : am_M), H = pre ++ suf → out.length = pre.length → md_sds μ bits ei H = out ++ md_sds μ bits k suf → -200 ≤ k - (suf.length : Int) → k ≤ 100 → Off 57 μ μ1 → Ar μ1 57 out → AW none 111 5 [(2, 32), (0, ei), (0, bits), (0, k), (0, (pre.length : Int))] [] n μ1 (PV n (fun μ' => Off 57 μ μ' ∧ Ar μ' 57 (md_sds μ bits ei H))) := by
    intro suf
    induction suf with
    | nil =>
      intro pre out k μ1 hp ho hs hk0 hk1 hO hAo
      have hl : Lay n μ1 := hl0.off hO la_57
      have e39 : μ1 32 39 = (H.length : Int) := (hO 32 39 (by decide)).trans hn
      have hpl : H.length = pre.length := by rw [hp]; simp
      refine aw_iload (q := 7) mX7_sides dX7_sides_5 rfl rfl ?_
      refine aw_aload_n (q := 8) mX7_sides dX7_sides_7 rfl rfl ?_
      refine aw_get (t := 0) (ji := 39) (q := 11) mX7_sides dX7_sides_8 rfl f7_166 rfl kd_32 rfl e39 ?_
      refine aw_icmp_ge (tgt := 68) (q := 14) mX7_sides dX7_sides_11 rfl (by decide) (fun c_11 => ?_) (fun c_11 => ?_)
      · refine aw_vret mX7_sides dX7_sides_68 ?_
        refine ⟨rfl, rfl, hO, ?_⟩
        rw [hs]
        show Ar μ1 57 (out ++ [])
        rw [List.append_nil]
        exact hAo
      · exact absurd c_11 (by omega)
    | cons x suf ih =>
      intro pre out k μ1 hp ho hs hk0 hk1 hO hAo
      have hl : Lay n μ1 := hl0.off hO la_57
      have e39 : μ1 32 39 = (H.length : Int) := (hO 32 39 (by decide)).trans hn
      have hpl : H.length = pre.length + suf.length + 1 := by rw [hp]; simp; omega
      have e56 : μ1 56 (pre.length : Int) = x := (hO 56 _ (by decide)).trans (Ar.mid (by rw [← hp]; exact hA))
      have hx := hv x (by rw [hp]; simp)
      have e37 : μ1 37 x = μ 37 x := hO 37 _ (by decide)
      simp only [List.length_cons] at hk0
      have hp2 : H = (pre ++ [x]) ++ suf := by rw [hp]; simp
      refine aw_iload (q := 7) mX7_sides dX7_sides_5 rfl rfl ?_
      refine aw_aload_n (q := 8) mX7_sides dX7_sides_7 rfl rfl ?_
      refine aw_get (t := 0) (ji := 39) (q := 11) mX7_sides dX7_sides_8 rfl f7_166 rfl kd_32 rfl e39 ?_
      refine aw_icmp_ge (tgt := 68) (q := 14) mX7_sides dX7_sides_11 rfl (by decide) (fun c_11 => ?_) (fun c_11 => ?_)
      · exact absurd c_11 (by omega)
      · refine aw_aload_n (q := 15) mX7_sides dX7_sides_14 rfl rfl ?_
        refine aw_get (t := 2) (ji := 36) (q := 18) mX7_sides dX7_sides_15 rfl f7_96 rfl kd_32 rfl (ly_32_36 hl) ?_
        refine aw_iload (q := 20) mX7_sides dX7_sides_18 rfl rfl ?_
        refine aw_aload_n (q := 21) mX7_sides dX7_sides_20 rfl rfl ?_
        refine aw_get (t := 2) (ji := 13) (q := 24) mX7_sides dX7_sides_21 rfl f7_35 rfl kd_32 rfl (ly_32_13 hl) ?_
        refine aw_aload_n (q := 25) mX7_sides dX7_sides_24 rfl rfl ?_
        refine aw_get (t := 2) (ji := 35) (q := 28) mX7_sides dX7_sides_25 rfl f7_93 rfl kd_32 rfl (ly_32_35 hl) ?_
        refine aw_iload (q := 30) mX7_sides dX7_sides_28 rfl rfl ?_
        refine aw_iald (q := 31) mX7_sides dX7_sides_30 rfl kd_56 (by omega) (by omega) e56 ?_
        refine aw_iald (q := 32) mX7_sides dX7_sides_31 rfl kd_37 (by omega) (by omega) e37 ?_
        refine aw_iast (q := 33) mX7_sides dX7_sides_32 rfl kd_57 (by omega) (by omega) (fun μ_32 e_32 => ?_)
        have hl : Lay n μ_32 := by rw [e_32]; exact Lay.setA la_57 hl
        refine aw_aload_n (q := 34) mX7_sides dX7_sides_33 rfl rfl ?_
        refine aw_get (t := 2) (ji := 36) (q := 37) mX7_sides dX7_sides_34 rfl f7_96 rfl kd_32 rfl (ly_32_36 hl) ?_
        refine aw_iload (q := 39) mX7_sides dX7_sides_37 rfl rfl ?_
        refine aw_iald (q := 40) mX7_sides dX7_sides_39 rfl kd_57 (by omega) (by omega) (rd_ss e_32) ?_
        refine aw_iconst (q := 41) mX7_sides dX7_sides_40 rfl rfl ?_
        refine aw_icmp_ge (tgt := 47) (q := 44) mX7_sides dX7_sides_41 rfl (by decide) (fun c_41 => ?_) (fun c_41 => ?_)
        · -- either
          refine aw_iinc (q := 50) mX7_sides dX7_sides_47 rfl rfl (by decide) (by omega) (by omega) rfl ?_
          refine aw_aload_n (q := 51) mX7_sides dX7_sides_50 rfl rfl ?_
          refine aw_get (t := 2) (ji := 36) (q := 54) mX7_sides dX7_sides_51 rfl f7_96 rfl kd_32 rfl (ly_32_36 hl) ?_
          refine aw_iload (q := 56) mX7_sides dX7_sides_54 rfl rfl ?_
          refine aw_iload_n (q := 57) mX7_sides dX7_sides_56 rfl rfl ?_
          refine aw_iload_n (q := 58) mX7_sides dX7_sides_57 rfl rfl ?_
          refine aw_ishr (q := 59) mX7_sides dX7_sides_58 rfl rfl ?_
          refine aw_iconst (q := 60) mX7_sides dX7_sides_59 rfl rfl ?_
          refine aw_iand (q := 61) mX7_sides dX7_sides_60 rfl rfl ?_
          refine aw_iast (q := 62) mX7_sides dX7_sides_61 rfl kd_57 (by omega) (by omega) (fun μ_61 e_61 => ?_)
          have hl : Lay n μ_61 := by rw [e_61]; exact Lay.setA la_57 hl
          refine aw_iinc (q := 65) mX7_sides dX7_sides_62 rfl rfl (by decide) (by omega) (by omega) rfl ?_
          refine aw_goto (q := 5) mX7_sides dX7_sides_65 (by decide) ?_
          have h9 := ih (pre ++ [x]) (out ++ [am_bit bits (k - 1)]) (k - 1) μ_61 hp2 (by simp [ho]) (by
            rw [hs, md_sds, if_neg (by omega)]; simp) (by omega) (by omega) (by rw [e_61, e_32]; exact (hO.set).set) (by
            refine hAo.snoc ?_ (fun i hi => ?_)
            · rw [ho, e_61, am_ss]
              rfl
            · rw [e_61, am_sn (Or.inr (by omega)), e_32, am_sn (Or.inr (by omega))])
          rw [List.length_append] at h9
          exact h9
        · refine aw_goto (q := 62) mX7_sides dX7_sides_44 (by decide) ?_
          refine aw_iinc (q := 65) mX7_sides dX7_sides_62 rfl rfl (by decide) (by omega) (by omega) rfl ?_
          refine aw_goto (q := 5) mX7_sides dX7_sides_65 (by decide) ?_
          have h9 := ih (pre ++ [x]) (out ++ [μ 37 x]) k μ_32 hp2 (by simp [ho]) (by
            rw [hs, md_sds, if_pos (by omega)]; simp) (by omega) (by omega) (by rw [e_32]; exact hO.set) (by
            refine hAo.snoc ?_ (fun i hi => ?_)
            · rw [ho, e_32, am_ss]
            · rw [e_32, am_sn (Or.inr (by omega))])
          rw [List.length_append] at h9
          exact h9
  refine AC.of rfl ?_
  refine aw_iload_n (q := 1) mX7_sides dX7_sides_0 rfl rfl ?_
  refine aw_istore_n (q := 2) mX7_sides dX7_sides_1 rfl (by decide) rfl ?_
  refine aw_iconst (q := 3) mX7_sides dX7_sides_2 rfl rfl ?_
  refine aw_istore (q := 5) mX7_sides dX7_sides_3 rfl (by decide) rfl ?_
  exact F H [] [] ei μ rfl rfl rfl (by omega) (by omega) Off.rf Ar.nil
/-- the notes of a side -/
def md_ro (s : Int) : List Int → List Int → List Int
  | x :: r, y :: q => if y = s then x :: md_ro s r q else md_ro s r q
  | _, _ => []
theorem md_ro_le {s : Int} : ∀ {l q : List Int}, (md_ro s l q).length ≤ l.length := by
  intro l
  induction l with
  | nil => intro q; simp [md_ro]
  | cons x r ih =>
    intro q
    cases q with
    | nil => simp [md_ro]
    | cons y q =>
      unfold md_ro
      have := ih (q := q)
      split <;> simp <;> omega
theorem md_ro_mem {s : Int} : ∀ {l q : List Int} {k : Int}, k ∈ md_ro s l q → k ∈ l := by
  intro l
  induction l with
  | nil => intro q k h; simp [md_ro] at h
  | cons x r ih =>
    intro q k h
    cases q with
    | nil => simp [md_ro] at h
    | cons y q =>
      unfold md_ro at h
      split at h
      · rcases List.mem_cons.mp h with h | h
        · rw [h]; exact List.mem_cons_self
        · exact List.mem_cons_of_mem _ (ih h)
      · exact List.mem_cons_of_mem _ (ih h)
def Sr (a j : Int) : Prop := a = 59 ∨ (a = 32 ∧ j = 40)
theorem Sr_Sw : ∀ a j, Sr a j → Sw a j := fun a j h => by unfold Sr at h; unfold Sw; omega
theorem pX7_rowOf (n : Nat) (μ : am_M) (s : Int) (H Sd : List Int) (hl0 : Lay n μ) (hA : Ar μ 56 H) (hS : Ar μ 57 Sd) (hn : μ 32 39 = (H.length : Int)) (hlen : Sd.length = H.length) (hH : H.length ≤ 24) : AC 112 [(2, 32), (0, s)] n μ (PV n (fun μ' => Of Sr μ μ' ∧ Ar μ' 59 (md_ro s H Sd) ∧ μ' 32 40 = ((md_ro s H Sd).length : Int))) := by
  have F : ∀ (suf pre sq pq out : List Int) (μ1 : am_M), H = pre ++ suf → Sd = pq ++ sq → pq.length = pre.length → sq.length = suf.length → md_ro s H Sd = out ++ md_ro s suf sq → out.length ≤ pre.length → Of Sr μ μ1 → Ar μ1 59 out → μ1 32 40 = (out.length : Int) → AW none 112 7 [(2, 32), (0, s), (0, (pre.length : Int))] [] n μ1 (PV n (fun μ' => Of Sr μ μ' ∧ Ar μ' 59 (md_ro s H Sd) ∧ μ' 32 40 = ((md_ro s H Sd).length : Int))) := by
    intro suf
    induction suf with
    | nil =>
      intro pre sq pq out μ1 hp hq hpq hsq hr hol hO hAo hn1
      have hl : Lay n μ1 := hl0.ofW (hO.mono Sr_Sw)
      have e39 : μ1 32 39 = (H.length : Int) := (hO 32 39 (by unfold Sr; omega)).trans hn
      have hpl : H.length = pre.length := by rw [hp]; simp
      have e : md_ro s H Sd = out := by rw [hr]; simp [md_ro]
      refine aw_iload_n (q := 8) mX7_rowOf dX7_rowOf_7 rfl rfl ?_
      refine aw_aload_n (q := 9) mX7_rowOf dX7_rowOf_8 rfl rfl ?_
      refine aw_get (t := 0) (ji := 39) (q := 12) mX7_rowOf dX7_rowOf_9 rfl f7_166 rfl kd_32 rfl e39 ?_
      refine aw_icmp_ge (tgt := 59) (q := 15) mX7_rowOf dX7_rowOf_12 rfl (by decide) (fun c_12 => ?_) (fun c_12 => ?_)
      · refine aw_vret mX7_rowOf dX7_rowOf_59 ?_
        rw [e]
        exact ⟨rfl, rfl, hO, hAo, hn1⟩
      · exact absurd c_12 (by omega)
    | cons x suf ih =>
      intro pre sq pq out μ1 hp hq hpq hsq hr hol hO hAo hn1
      cases sq with
      | nil => simp at hsq
      | cons y sq =>
        have hl : Lay n μ1 := hl0.ofW (hO.mono Sr_Sw)
        have e39 : μ1 32 39 = (H.length : Int) := (hO 32 39 (by unfold Sr; omega)).trans hn
        have hpl : H.length = pre.length + suf.length + 1 := by rw [hp]; simp; omega
        have e57 : μ1 57 (pre.length : Int) = y := (hO 57 _ (by unfold Sr; omega)).trans (by rw [← hpq]; exact Ar.mid (by rw [← hq]; exact hS))
        have e56 : μ1 56 (pre.length : Int) = x := (hO 56 _ (by unfold Sr; omega)).trans (Ar.mid (by rw [← hp]; exact hA))
        have hp2 : H = (pre ++ [x]) ++ suf := by rw [hp]; simp
        have hq2 : Sd = (pq ++ [y]) ++ sq := by rw [hq]; simp
        refine aw_iload_n (q := 8) mX7_rowOf dX7_rowOf_7 rfl rfl ?_
        refine aw_aload_n (q := 9) mX7_rowOf dX7_rowOf_8 rfl rfl ?_
        refine aw_get (t := 0) (ji := 39) (q := 12) mX7_rowOf dX7_rowOf_9 rfl f7_166 rfl kd_32 rfl e39 ?_
        refine aw_icmp_ge (tgt := 59) (q := 15) mX7_rowOf dX7_rowOf_12 rfl (by decide) (fun c_12 => ?_) (fun c_12 => ?_)
        · exact absurd c_12 (by omega)
        · refine aw_aload_n (q := 16) mX7_rowOf dX7_rowOf_15 rfl rfl ?_
          refine aw_get (t := 2) (ji := 36) (q := 19) mX7_rowOf dX7_rowOf_16 rfl f7_96 rfl kd_32 rfl (ly_32_36 hl) ?_
          refine aw_iload_n (q := 20) mX7_rowOf dX7_rowOf_19 rfl rfl ?_
          refine aw_iald (q := 21) mX7_rowOf dX7_rowOf_20 rfl kd_57 (by omega) (by omega) e57 ?_
          refine aw_iload_n (q := 22) mX7_rowOf dX7_rowOf_21 rfl rfl ?_
          refine aw_icmp_eq (tgt := 28) (q := 25) mX7_rowOf dX7_rowOf_22 rfl (by decide) (fun c_22 => ?_) (fun c_22 => ?_)
          · refine aw_aload_n (q := 29) mX7_rowOf dX7_rowOf_28 rfl rfl ?_
            refine aw_get (t := 2) (ji := 38) (q := 32) mX7_rowOf dX7_rowOf_29 rfl f7_102 rfl kd_32 rfl (ly_32_38 hl) ?_
            refine aw_aload_n (q := 33) mX7_rowOf dX7_rowOf_32 rfl rfl ?_
            refine aw_get (t := 0) (ji := 40) (q := 36) mX7_rowOf dX7_rowOf_33 rfl f7_169 rfl kd_32 rfl hn1 ?_
            refine aw_aload_n (q := 37) mX7_rowOf dX7_rowOf_36 rfl rfl ?_
            refine aw_get (t := 2) (ji := 35) (q := 40) mX7_rowOf dX7_rowOf_37 rfl f7_93 rfl kd_32 rfl (ly_32_35 hl) ?_
            refine aw_iload_n (q := 41) mX7_rowOf dX7_rowOf_40 rfl rfl ?_
            refine aw_iald (q := 42) mX7_rowOf dX7_rowOf_41 rfl kd_56 (by omega) (by omega) e56 ?_
            refine aw_iast (q := 43) mX7_rowOf dX7_rowOf_42 rfl kd_59 (by omega) (by omega) (fun μ_42 e_42 => ?_)
            have hl : Lay n μ_42 := by rw [e_42]; exact Lay.setA la_59 hl
            refine aw_aload_n (q := 44) mX7_rowOf dX7_rowOf_43 rfl rfl ?_
            refine aw_dupr (q := 45) mX7_rowOf dX7_rowOf_44 rfl ?_
            refine aw_get (t := 0) (ji := 40) (q := 48) mX7_rowOf dX7_rowOf_45 rfl f7_169 rfl kd_32 rfl (rd_sn e_42 (Or.inl (by decide)) hn1) ?_
            refine aw_iconst (q := 49) mX7_rowOf dX7_rowOf_48 rfl rfl ?_
            refine aw_iadd (q := 50) mX7_rowOf dX7_rowOf_49 rfl (by omega) (by omega) ?_
            refine aw_put (t := 0) (ji := 40) (q := 53) mX7_rowOf dX7_rowOf_50 rfl f7_169 rfl kd_32 rfl (Or.inl rfl) (Or.inl (by decide)) (fun μ_50 e_50 => ?_)
            have hl : Lay n μ_50 := by rw [e_50]; exact Lay.setF lf_32_40 hl
            refine aw_iinc (q := 56) mX7_rowOf dX7_rowOf_53 rfl rfl (by decide) (by omega) (by omega) rfl ?_
            refine aw_goto (q := 7) mX7_rowOf dX7_rowOf_56 (by decide) ?_
            have h9 := ih (pre ++ [x]) sq (pq ++ [y]) (out ++ [x]) μ_50 hp2 hq2 (by simp [hpq]) (by simpa using hsq) (by rw [hr, md_ro, if_pos c_22]; simp) (by simp; omega) (by rw [e_50, e_42]; exact (hO.set (Or.inl rfl)).set (Or.inr ⟨rfl, rfl⟩)) (by
              refine hAo.snoc ?_ (fun i hi => ?_)
              · rw [e_50, am_sn (Or.inl (by decide)), e_42, am_ss]
              · rw [e_50, am_sn (Or.inl (by decide)), e_42, am_sn (Or.inr (by omega))]) (by rw [e_50, am_ss]; simp)
            rw [List.length_append] at h9
            exact h9
          · refine aw_goto (q := 53) mX7_rowOf dX7_rowOf_25 (by decide) ?_
            refine aw_iinc (q := 56) mX7_rowOf dX7_rowOf_53 rfl rfl (by decide) (by omega) (by omega) rfl ?_
            refine aw_goto (q := 7) mX7_rowOf dX7_rowOf_56 (by decide) ?_
            have h9 := ih (pre ++ [x]) sq (pq ++ [y]) out μ1 hp2 hq2 (by simp [hpq]) (by simpa using hsq) (by rw [hr, md_ro, if_neg c_22]) (by simp; omega) hO hAo hn1
            rw [List.length_append] at h9
            exact h9
  refine AC.of rfl ?_
  have hl := hl0
  refine aw_aload_n (q := 1) mX7_rowOf dX7_rowOf_0 rfl rfl ?_
  refine aw_iconst (q := 2) mX7_rowOf dX7_rowOf_1 rfl rfl ?_
  refine aw_put (t := 0) (ji := 40) (q := 5) mX7_rowOf dX7_rowOf_2 rfl f7_169 rfl kd_32 rfl (Or.inl rfl) (Or.inl (by decide)) (fun μ_2 e_2 => ?_)
  have hl : Lay n μ_2 := by rw [e_2]; exact Lay.setF lf_32_40 hl
  refine aw_iconst (q := 6) mX7_rowOf dX7_rowOf_5 rfl rfl ?_
  refine aw_istore_n (q := 7) mX7_rowOf dX7_rowOf_6 rfl (by decide) rfl ?_
  exact F H [] Sd [] [] μ_2 rfl rfl rfl hlen rfl (Nat.le_refl 0) (by rw [e_2]; exact Of.rf.set (Or.inr ⟨rfl, rfl⟩)) Ar.nil (rd_ss e_2)

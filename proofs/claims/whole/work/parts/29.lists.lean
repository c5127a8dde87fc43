/-! lists in arrays; the reference's gather, sides, rowOf -/
def Ar (μ : am_M) (a : Int) (l : List Int) : Prop := ∀ (i : Nat) (x : Int), l[i]? = some x → μ a (i : Int) = x
theorem Ar.mid {μ : am_M} {a : Int} {p s : List Int} {x : Int} (h : Ar μ a (p ++ x :: s)) : μ a (p.length : Int) = x := h p.length x (by simp)
theorem Ar.nil {μ : am_M} {a : Int} : Ar μ a [] := fun i x h => by simp at h
theorem Ar.snoc {μ μ1 : am_M} {a x : Int} {l : List Int} (h : Ar μ a l) (he : μ1 a (l.length : Int) = x) (ho : ∀ j, j < (l.length : Int) → μ1 a j = μ a j) : Ar μ1 a (l ++ [x]) := by
  intro i y hy
  by_cases hi : i < l.length
  · rw [List.getElem?_append_left hi] at hy
    rw [ho (i : Int) (by omega)]
    exact h i y hy
  · by_cases h2 : i = l.length
    · subst h2
      rw [List.getElem?_append_right (Nat.le_refl _)] at hy
      simp at hy
      rw [← hy]
      exact he
    · rw [List.getElem?_eq_none (by simp; omega)] at hy
      cases hy
theorem Ar.to {μ μ1 : am_M} {a : Int} {l : List Int} (h : Ar μ a l) (he : ∀ j, μ1 a j = μ a j) : Ar μ1 a l := fun i x hi => by rw [he]; exact h i x hi
theorem rd_sn {μ μ' : am_M} {a j x b i v : Int} (e : μ' = am_set μ a j x) (h : b ≠ a ∨ i ≠ j) (hv : μ b i = v) : μ' b i = v := by rw [e, am_sn h]; exact hv
theorem rd_ss {μ μ' : am_M} {a j x : Int} (e : μ' = am_set μ a j x) : μ' a j = x := by rw [e, am_ss]
def Of (S : Int → Int → Prop) (μ μ1 : am_M) : Prop := ∀ a j, ¬ S a j → μ1 a j = μ a j
theorem Of.rf {S : Int → Int → Prop} {μ : am_M} : Of S μ μ := fun _ _ _ => rfl
theorem Of.set {S : Int → Int → Prop} {μ μ1 : am_M} (h : Of S μ μ1) {b j x : Int} (hs : S b j) : Of S μ (am_set μ1 b j x) := fun a i ha => by
  rw [am_sn (by
    by_cases e : a = b
    · right; intro e2; rw [e, e2] at ha; exact ha hs
    · left; exact e)]
  exact h a i ha
theorem Of.tr {S : Int → Int → Prop} {μ μ1 μ2 : am_M} (h : Of S μ μ1) (h2 : Of S μ1 μ2) : Of S μ μ2 := fun a j hs => (h2 a j hs).trans (h a j hs)
theorem Of.mono {S T : Int → Int → Prop} {μ μ1 : am_M} (h : Of S μ μ1) (hst : ∀ a j, S a j → T a j) : Of T μ μ1 := fun a j ht => h a j (fun hs => ht (hst a j hs))
theorem Of.be {S : Int → Int → Prop} {μ μ1 : am_M} (h : Of S μ μ1) (hs : ∀ a j, S a j → 45 ≤ a ∨ a < 32 ∨ (a = 32 ∧ (8 < j ∨ j < 2))) : BE μ μ1 := ⟨fun j h1 h2 => h 32 j (fun z => by have := hs _ _ z; omega), fun a j h1 h2 => h a j (fun z => by have := hs _ _ z; omega)⟩
def md_setB (μ : am_M) (k : Int) : Bool := decide (μ 32 6 ≠ 0) || decide (am_bit (μ 32 5) (μ 38 k) = 1)
def md_nt (μ : am_M) (l : Int) : Nat → List Int
  | 0 => []
  | m + 1 => md_nt μ l m ++ (if decide (μ 34 (m : Int) = l) && md_setB μ (m : Int) then [(m : Int)] else [])
def md_hr (μ : am_M) (fr : Int) : Nat → List Int
  | 0 => []
  | m + 1 => md_hr μ fr m ++ md_nt μ (fr + (m : Int)) (μ 32 8).toNat
def md_ei (μ : am_M) : List Int → Int
  | [] => 0
  | k :: r => (if μ 37 k = 2 then 1 else 0) + md_ei μ r
theorem md_ei_app {μ : am_M} {l r : List Int} : md_ei μ (l ++ r) = md_ei μ l + md_ei μ r := by
  induction l with
  | nil => simp [md_ei]
  | cons k l ih => simp only [List.cons_append, md_ei, ih]; omega
theorem md_ei_b {μ : am_M} {l : List Int} : 0 ≤ md_ei μ l ∧ md_ei μ l ≤ (l.length : Int) := by
  induction l with
  | nil => simp [md_ei]
  | cons k l ih => simp only [md_ei, List.length_cons]; split <;> omega
/-- how many of the first N notes are of lines from fr on, below x -/
def md_ct (μ : am_M) (fr x : Int) : Nat → Nat
  | 0 => 0
  | m + 1 => md_ct μ fr x m + (if decide (fr ≤ μ 34 (m : Int)) && decide (μ 34 (m : Int) < x) && md_setB μ (m : Int) then 1 else 0)
theorem md_ct_le {μ : am_M} {fr x : Int} {N : Nat} : md_ct μ fr x N ≤ N := by
  induction N with
  | zero => exact Nat.le_refl 0
  | succ m ih => unfold md_ct; split <;> omega
theorem md_ct_succ {μ : am_M} {fr : Int} {m : Nat} {N : Nat} : md_ct μ fr (fr + (m : Int)) N + (md_nt μ (fr + (m : Int)) N).length = md_ct μ fr (fr + ((m + 1 : Nat) : Int)) N := by
  induction N with
  | zero => rfl
  | succ j ih =>
    unfold md_ct md_nt
    rw [List.length_append, ← ih]
    generalize md_setB μ (j : Int) = b
    cases b with
    | false => simp
    | true =>
      simp only [Bool.and_true]
      by_cases h1 : μ 34 (j : Int) = fr + (m : Int)
      · have e1 : decide (fr ≤ μ 34 (j : Int)) = true := by simp; omega
        have e2 : decide (μ 34 (j : Int) < fr + (m : Int)) = false := by simp; omega
        have e3 : decide (μ 34 (j : Int) < fr + ((m + 1 : Nat) : Int)) = true := by simp; omega
        rw [e1, e2, e3]
        simp [h1]
        omega
      · by_cases h2 : fr ≤ μ 34 (j : Int) ∧ μ 34 (j : Int) < fr + (m : Int)
        · have e1 : decide (fr ≤ μ 34 (j : Int)) = true := by simp; omega
          have e2 : decide (μ 34 (j : Int) < fr + (m : Int)) = true := by simp; omega
          have e3 : decide (μ 34 (j : Int) < fr + ((m + 1 : Nat) : Int)) = true := by simp; omega
          rw [e1, e2, e3]
          simp [h1]
          omega
        · have e1 : (decide (fr ≤ μ 34 (j : Int)) && decide (μ 34 (j : Int) < fr + (m : Int))) = false := by simp; omega
          have e2 : (decide (fr ≤ μ 34 (j : Int)) && decide (μ 34 (j : Int) < fr + ((m + 1 : Nat) : Int))) = false := by simp; omega
          rw [e1, e2]
          simp [h1]
theorem md_ct_0 {μ : am_M} {fr : Int} {N : Nat} : md_ct μ fr (fr + ((0 : Nat) : Int)) N = 0 := by
  induction N with
  | zero => rfl
  | succ j ih =>
    unfold md_ct
    rw [ih]
    have e1 : (decide (fr ≤ μ 34 (j : Int)) && decide (μ 34 (j : Int) < fr + ((0 : Nat) : Int))) = false := by simp
    rw [e1]
    rfl
theorem md_hr_len {μ : am_M} {fr : Int} {m : Nat} : (md_hr μ fr m).length = md_ct μ fr (fr + (m : Int)) (μ 32 8).toNat := by
  induction m with
  | zero => rw [md_ct_0]; rfl
  | succ m ih =>
    unfold md_hr
    rw [List.length_append, ih, md_ct_succ]
theorem md_hr_le {μ : am_M} {fr : Int} {m : Nat} : (md_hr μ fr m).length ≤ (μ 32 8).toNat := by rw [md_hr_len]; exact md_ct_le
theorem md_nt_mono {μ : am_M} {l : Int} {j N : Nat} (h : j ≤ N) : (md_nt μ l j).length ≤ (md_nt μ l N).length := by
  induction h with
  | refl => exact Nat.le_refl _
  | step _ ih => exact Nat.le_trans ih (by rw [md_nt, List.length_append]; omega)
theorem md_nt_mem {μ : am_M} {l : Int} {m : Nat} : ∀ {k : Int}, k ∈ md_nt μ l m → 0 ≤ k ∧ k < (m : Int) ∧ μ 34 k = l := by
  induction m with
  | zero => intro k h; simp [md_nt] at h
  | succ m ih =>
    intro k h
    unfold md_nt at h
    rcases List.mem_append.mp h with h | h
    · have := ih h; omega
    · split at h
      · rename_i hc
        simp at h
        simp at hc
        rw [h]
        omega
      · simp at h
theorem md_hr_mem {μ : am_M} {fr : Int} {m : Nat} : ∀ {k : Int}, k ∈ md_hr μ fr m → 0 ≤ k ∧ k < ((μ 32 8).toNat : Int) ∧ fr ≤ μ 34 k ∧ μ 34 k < fr + (m : Int) := by
  induction m with
  | zero => intro k h; simp [md_hr] at h
  | succ m ih =>
    intro k h
    unfold md_hr at h
    rcases List.mem_append.mp h with h | h
    · have := ih h; omega
    · have := md_nt_mem h; omega
/-- what gather changes -/
def Sg (a j : Int) : Prop := a = 56 ∨ (a = 32 ∧ j = 39)
theorem Lay.of {S : Int → Int → Prop} {n : Nat} {μ μ1 : am_M} (hl : Lay n μ) (h : Of S μ μ1) (hs : ∀ q ∈ am_layL, ¬ S q.1 q.2.1) (hs2 : ∀ a, 66 ≤ a → ¬ S a 4) : Lay n μ1 := ⟨fun q hq => (h q.1 q.2.1 (hs q hq)).trans (hl.1 q hq), fun a h1 h2 h3 => (h a 4 (hs2 a h1)).trans (hl.2 a h1 h2 h3)⟩
/-- cells of the reference that its own work changes hold no fixed reference -/
theorem am_layWk : am_layL.all (fun q => !(decide (45 ≤ q.1 ∧ q.1 ≤ 65)) && !(decide (q.1 = 32 ∧ (q.2.1 ≤ 8 ∨ q.2.1 = 21 ∨ q.2.1 = 22 ∨ q.2.1 = 23 ∨ q.2.1 = 39 ∨ q.2.1 = 40)))) = true := by decide +kernel
def Sw (a j : Int) : Prop := (45 ≤ a ∧ a ≤ 65) ∨ (a = 32 ∧ (j ≤ 1 ∨ j = 21 ∨ j = 22 ∨ j = 23 ∨ j = 39 ∨ j = 40))
theorem Lay.ofW {n : Nat} {μ μ1 : am_M} (hl : Lay n μ) (h : Of Sw μ μ1) : Lay n μ1 := hl.of h (fun q hq z => by
  have := List.all_eq_true.mp am_layWk q hq
  simp only [Bool.and_eq_true, Bool.not_eq_true', decide_eq_false_iff_not] at this
  unfold Sw at z
  omega) (fun a ha z => by unfold Sw at z; omega)
theorem Sg_Sw : ∀ a j, Sg a j → Sw a j := fun a j h => by unfold Sg at h; unfold Sw; omega
theorem Of.beW {μ μ1 : am_M} (h : Of Sw μ μ1) : BE μ μ1 := h.be (fun a j z => by unfold Sw at z; omega)
theorem pX7_gather_in (n : Nat) (μ : am_M) (fr many : Int) (hl0 : Lay n μ) (hB : Bk μ) (m : Nat) (hm : (m : Int) < many) (hmm : fr + many ≤ 60) (hf : 0 ≤ fr) (Q : Option am_V → Nat → am_M → Prop)
    (kk : ∀ (μ2 : am_M) (z : Int), Of Sg μ μ2 → Ar μ2 56 (md_hr μ fr (m + 1)) → μ2 32 39 = ((md_hr μ fr (m + 1)).length : Int) → AW none 110 107 [(2, 32), (0, fr), (0, many), (0, md_ei μ (md_hr μ fr (m + 1))), (0, fr + (m : Int)), (0, z)] [] n μ2 Q) :
    ∀ (d j : Nat) (μ1 : am_M), (j : Int) + d = μ 32 8 → Of Sg μ μ1 → Ar μ1 56 (md_hr μ fr m ++ md_nt μ (fr + (m : Int)) j) → μ1 32 39 = ((md_hr μ fr m ++ md_nt μ (fr + (m : Int)) j).length : Int) → AW none 110 21 [(2, 32), (0, fr), (0, many), (0, md_ei μ (md_hr μ fr m ++ md_nt μ (fr + (m : Int)) j)), (0, fr + (m : Int)), (0, (j : Int))] [] n μ1 Q := by
  obtain ⟨b1, b2, b3, b4, b5, b6, b7, b8, b9⟩ := id hB
  intro d
  induction d with
  | zero =>
    intro j μ1 hj hO hA hn
    have hl : Lay n μ1 := hl0.ofW (hO.mono Sg_Sw)
    have e8 : μ1 32 8 = μ 32 8 := hO 32 8 (by unfold Sg; omega)
    refine aw_iload (q := 23) mX7_gather dX7_gather_21 rfl rfl ?_
    refine aw_aload_n (q := 24) mX7_gather dX7_gather_23 rfl rfl ?_
    refine aw_get (t := 0) (ji := 8) (q := 27) mX7_gather dX7_gather_24 rfl f7_136 rfl kd_32 rfl e8 ?_
    refine aw_icmp_ge (tgt := 107) (q := 30) mX7_gather dX7_gather_27 rfl (by decide) (fun c_27 => ?_) (fun c_27 => ?_)
    · have ej : (μ 32 8).toNat = j := by omega
      have e : md_hr μ fr (m + 1) = md_hr μ fr m ++ md_nt μ (fr + (m : Int)) j := by rw [md_hr, ej]
      rw [← e] at hA hn ⊢
      exact kk μ1 _ hO hA hn
    · exact absurd c_27 (by omega)
  | succ d ih =>
    intro j μ1 hj hO hA hn
    have hl : Lay n μ1 := hl0.ofW (hO.mono Sg_Sw)
    have e8 : μ1 32 8 = μ 32 8 := hO 32 8 (by unfold Sg; omega)
    have e34 : μ1 34 (j : Int) = μ 34 (j : Int) := hO 34 _ (by unfold Sg; omega)
    have e6 : μ1 32 6 = μ 32 6 := hO 32 6 (by unfold Sg; omega)
    have e5 : μ1 32 5 = μ 32 5 := hO 32 5 (by unfold Sg; omega)
    have e38 : μ1 38 (j : Int) = μ 38 (j : Int) := hO 38 _ (by unfold Sg; omega)
    have e37 : μ1 37 (j : Int) = μ 37 (j : Int) := hO 37 _ (by unfold Sg; omega)
    obtain ⟨n1, n2, n3, n4, n5, -⟩ := b9 (j : Int) (by omega) (by omega)
    obtain ⟨E, hE⟩ : ∃ E, E = md_hr μ fr m ++ md_nt μ (fr + (m : Int)) j := ⟨_, rfl⟩
    rw [← hE] at hA hn ⊢
    have hlenE : (E.length : Int) ≤ 24 := by
      have h1 := md_hr_le (μ := μ) (fr := fr) (m := m + 1)
      have h2 := md_nt_mono (μ := μ) (l := fr + (m : Int)) (show j ≤ (μ 32 8).toNat by omega)
      rw [md_hr, List.length_append] at h1
      rw [hE, List.length_append]
      omega
    have heb := md_ei_b (μ := μ) (l := E)
    have hnt : md_nt μ (fr + (m : Int)) (j + 1) = md_nt μ (fr + (m : Int)) j ++ (if decide (μ 34 (j : Int) = fr + (m : Int)) && md_setB μ (j : Int) then [(j : Int)] else []) := rfl
    -- not taken
    have N : (decide (μ 34 (j : Int) = fr + (m : Int)) && md_setB μ (j : Int)) = false → AW none 110 101 [(2, 32), (0, fr), (0, many), (0, md_ei μ E), (0, fr + (m : Int)), (0, (j : Int))] [] n μ1 Q := by
      intro hc
      have e : md_hr μ fr m ++ md_nt μ (fr + (m : Int)) (j + 1) = E := by rw [hnt, hc, hE]; simp
      have h9 := ih (j + 1) μ1 (by omega) hO (by rw [e]; exact hA) (by rw [e]; exact hn)
      rw [e] at h9
      refine aw_iinc (q := 104) mX7_gather dX7_gather_101 rfl rfl (by decide) (by omega) (by omega) rfl ?_
      refine aw_goto (q := 21) mX7_gather dX7_gather_104 (by decide) ?_
      exact h9
    -- taken
    have Y : (decide (μ 34 (j : Int) = fr + (m : Int)) && md_setB μ (j : Int)) = true → AW none 110 61 [(2, 32), (0, fr), (0, many), (0, md_ei μ E), (0, fr + (m : Int)), (0, (j : Int))] [] n μ1 Q := by
      intro hc
      have e : md_hr μ fr m ++ md_nt μ (fr + (m : Int)) (j + 1) = E ++ [(j : Int)] := by rw [hnt, hc, hE]; simp
      have hlen2 : (E.length : Int) < 24 := by
        have h1 := md_hr_le (μ := μ) (fr := fr) (m := m + 1)
        have h2 := md_nt_mono (μ := μ) (l := fr + (m : Int)) (show j + 1 ≤ (μ 32 8).toNat by omega)
        rw [md_hr, List.length_append] at h1
        have h3 : (E ++ [(j : Int)]).length = (md_hr μ fr m ++ md_nt μ (fr + (m : Int)) (j + 1)).length := by rw [e]
        rw [List.length_append, List.length_append] at h3
        simp only [List.length_cons, List.length_nil] at h3
        omega
      have J : ∀ (μ2 : am_M) (x : Int), Of Sg μ μ2 → Ar μ2 56 (E ++ [(j : Int)]) → μ2 32 39 = (E.length : Int) + 1 → x = (if μ 37 (j : Int) = 2 then 1 else 0) → AW none 110 99 [(2, 32), (0, fr), (0, many), (0, md_ei μ E), (0, fr + (m : Int)), (0, (j : Int))] [(0, x), (0, md_ei μ E)] n μ2 Q := by
        intro μ2 x hO2 hA2 hn2 hx
        have hx1 : 0 ≤ x ∧ x ≤ 1 := by rw [hx]; split <;> omega
        have h9 := ih (j + 1) μ2 (by omega) hO2 (by rw [e]; exact hA2) (by rw [e, List.length_append, hn2]; simp)
        have e9 : md_ei μ (md_hr μ fr m ++ md_nt μ (fr + (m : Int)) (j + 1)) = md_ei μ E + x := by
          rw [e, md_ei_app, hx]
          simp [md_ei]
        rw [e9] at h9
        refine aw_iadd (q := 100) mX7_gather dX7_gather_99 rfl (by omega) (by omega) ?_
        refine aw_istore_n (q := 101) mX7_gather dX7_gather_100 rfl (by decide) rfl ?_
        refine aw_iinc (q := 104) mX7_gather dX7_gather_101 rfl rfl (by decide) (by omega) (by omega) rfl ?_
        refine aw_goto (q := 21) mX7_gather dX7_gather_104 (by decide) ?_
        exact h9
      refine aw_aload_n (q := 62) mX7_gather dX7_gather_61 rfl rfl ?_
      refine aw_get (t := 2) (ji := 35) (q := 65) mX7_gather dX7_gather_62 rfl f7_93 rfl kd_32 rfl (ly_32_35 hl) ?_
      refine aw_aload_n (q := 66) mX7_gather dX7_gather_65 rfl rfl ?_
      refine aw_get (t := 0) (ji := 39) (q := 69) mX7_gather dX7_gather_66 rfl f7_166 rfl kd_32 rfl hn ?_
      refine aw_iload (q := 71) mX7_gather dX7_gather_69 rfl rfl ?_
      refine aw_iast (q := 72) mX7_gather dX7_gather_71 rfl kd_56 (by omega) (by omega) (fun μ_71 e_71 => ?_)
      have hl : Lay n μ_71 := by rw [e_71]; exact Lay.setA la_56 hl
      refine aw_aload_n (q := 73) mX7_gather dX7_gather_72 rfl rfl ?_
      refine aw_dupr (q := 74) mX7_gather dX7_gather_73 rfl ?_
      refine aw_get (t := 0) (ji := 39) (q := 77) mX7_gather dX7_gather_74 rfl f7_166 rfl kd_32 rfl (rd_sn e_71 (Or.inl (by decide)) hn) ?_
      refine aw_iconst (q := 78) mX7_gather dX7_gather_77 rfl rfl ?_
      refine aw_iadd (q := 79) mX7_gather dX7_gather_78 rfl (by omega) (by omega) ?_
      refine aw_put (t := 0) (ji := 39) (q := 82) mX7_gather dX7_gather_79 rfl f7_166 rfl kd_32 rfl (Or.inl rfl) (Or.inl (by decide)) (fun μ_79 e_79 => ?_)
      have hl : Lay n μ_79 := by rw [e_79]; exact Lay.setF lf_32_39 hl
      refine aw_iload_n (q := 83) mX7_gather dX7_gather_82 rfl rfl ?_
      refine aw_aload_n (q := 84) mX7_gather dX7_gather_83 rfl rfl ?_
      refine aw_get (t := 2) (ji := 13) (q := 87) mX7_gather dX7_gather_84 rfl f7_35 rfl kd_32 rfl (ly_32_13 hl) ?_
      refine aw_iload (q := 89) mX7_gather dX7_gather_87 rfl rfl ?_
      refine aw_iald (q := 90) mX7_gather dX7_gather_89 rfl kd_37 (by omega) (by omega) (rd_sn e_79 (Or.inl (by decide)) (rd_sn e_71 (Or.inl (by decide)) e37)) ?_
      refine aw_iconst (q := 91) mX7_gather dX7_gather_90 rfl rfl ?_
      refine aw_icmp_ne (tgt := 98) (q := 94) mX7_gather dX7_gather_91 rfl (by decide) (fun c_91 => ?_) (fun c_91 => ?_)
      · refine aw_iconst (q := 99) mX7_gather dX7_gather_98 rfl rfl ?_
        refine J μ_79 0 ?_ ?_ ?_ (by rw [if_neg c_91])
        · rw [e_79, e_71]; exact (hO.set (Or.inl rfl)).set (Or.inr ⟨rfl, rfl⟩)
        · refine hA.snoc ?_ (fun i hi => ?_)
          · rw [e_79, am_sn (Or.inl (by decide)), e_71, am_ss]
          · rw [e_79, am_sn (Or.inl (by decide)), e_71, am_sn (Or.inr (by omega))]
        · rw [e_79, am_ss]
      · refine aw_iconst (q := 95) mX7_gather dX7_gather_94 rfl rfl ?_
        refine aw_goto (q := 99) mX7_gather dX7_gather_95 (by decide) ?_
        refine J μ_79 1 ?_ ?_ ?_ (by rw [if_pos (Decidable.not_not.mp c_91)])
        · rw [e_79, e_71]; exact (hO.set (Or.inl rfl)).set (Or.inr ⟨rfl, rfl⟩)
        · refine hA.snoc ?_ (fun i hi => ?_)
          · rw [e_79, am_sn (Or.inl (by decide)), e_71, am_ss]
          · rw [e_79, am_sn (Or.inl (by decide)), e_71, am_sn (Or.inr (by omega))]
        · rw [e_79, am_ss]
    have hsh := pX7_isShown n μ1 (j : Int) hl (by omega) (by omega)
    refine aw_iload (q := 23) mX7_gather dX7_gather_21 rfl rfl ?_
    refine aw_aload_n (q := 24) mX7_gather dX7_gather_23 rfl rfl ?_
    refine aw_get (t := 0) (ji := 8) (q := 27) mX7_gather dX7_gather_24 rfl f7_136 rfl kd_32 rfl e8 ?_
    refine aw_icmp_ge (tgt := 107) (q := 30) mX7_gather dX7_gather_27 rfl (by decide) (fun c_27 => ?_) (fun c_27 => ?_)
    · exact absurd c_27 (by omega)
    · refine aw_aload_n (q := 31) mX7_gather dX7_gather_30 rfl rfl ?_
      refine aw_get (t := 2) (ji := 10) (q := 34) mX7_gather dX7_gather_31 rfl f7_26 rfl kd_32 rfl (ly_32_10 hl) ?_
      refine aw_iload (q := 36) mX7_gather dX7_gather_34 rfl rfl ?_
      refine aw_iald (q := 37) mX7_gather dX7_gather_36 rfl kd_34 (by omega) (by omega) e34 ?_
      refine aw_iload (q := 39) mX7_gather dX7_gather_37 rfl rfl ?_
      refine aw_icmp_ne (tgt := 101) (q := 42) mX7_gather dX7_gather_39 rfl (by decide) (fun c_39 => ?_) (fun c_39 => ?_)
      · exact N (by simp [c_39])
      · refine aw_aload_n (q := 43) mX7_gather dX7_gather_42 rfl rfl ?_
        refine aw_get (t := 0) (ji := 6) (q := 46) mX7_gather dX7_gather_43 rfl f7_157 rfl kd_32 rfl e6 ?_
        refine aw_if_ne (tgt := 61) (q := 49) mX7_gather dX7_gather_46 rfl (by decide) (fun c_46 => ?_) (fun c_46 => ?_)
        · exact Y (by unfold md_setB; simp [Decidable.not_not.mp c_39, c_46])
        · refine aw_aload_n (q := 50) mX7_gather dX7_gather_49 rfl rfl ?_
          refine aw_iload (q := 52) mX7_gather dX7_gather_50 rfl rfl ?_
          refine aw_v1 (ci := 7) (q := 55) mX7_gather dX7_gather_52 rfl l7_163 k110_107 rfl kd_32 rfl rfl rfl (hsh) (kint (fun x μ3 hx => ?_))
          obtain ⟨rfl, hx⟩ := hx
          unfold md_sh at hx
          rw [e5, e38] at hx
          refine aw_if_ne (tgt := 61) (q := 58) mX7_gather dX7_gather_55 rfl (by decide) (fun c_55 => ?_) (fun c_55 => ?_)
          · refine Y ?_
            unfold md_setB
            have : am_bit (μ 32 5) (μ 38 (j : Int)) = 1 := by
              rcases hx with ⟨h1, h2⟩ | ⟨h1, h2⟩
              · exact h2
              · exact absurd h1 c_55
            simp [Decidable.not_not.mp c_39, this]
          · refine aw_goto (q := 101) mX7_gather dX7_gather_58 (by decide) ?_
            refine N ?_
            unfold md_setB
            have : ¬ am_bit (μ 32 5) (μ 38 (j : Int)) = 1 := by
              rcases hx with ⟨h1, h2⟩ | ⟨h1, h2⟩
              · omega
              · exact h2
            simp [Decidable.not_not.mp c_46, this]

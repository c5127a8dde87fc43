/-! the class's PageSetter: setBest -/
theorem BE.symm {μ m : am_M} (h : BE μ m) : BE m μ := ⟨fun j h1 h2 => (h.1 j h1 h2).symm, fun a j h1 h2 => (h.2 a j h1 h2).symm⟩
theorem BE.trans {μ m g : am_M} (h : BE μ m) (h2 : BE m g) : BE μ g := ⟨fun j a b => (h2.1 j a b).trans (h.1 j a b), fun a j b c => (h2.2 a j b c).trans (h.2 a j b c)⟩
/-- the pages' data that the class holds, as the reference would -/
def gm (μ m : am_M) (x p : Int) : am_M := fun a j => if a = 48 then x else if a = 47 then (if j = 2 * p + 2 then μ 18 11 else μ 25 11) else if a = 51 then μ (nf j) 12 else if a = 52 then μ (nf j) 13 else if a = 53 then m 35 j + m 40 j - μ (nf j) 14 else if a = 54 then μ (nf j) 14 else p
theorem md_dc_eq {m : am_M} {a b d : Int} {H : List Int} : md_dc m a b H d = if md_sc m a (md_rw m 0 d H) < rw_NV ∧ md_sc m b (md_rw m 1 d H) < rw_NV then md_sc m a (md_rw m 0 d H) + md_sc m b (md_rw m 1 d H) else rw_NV := by
  have hNV : rw_NV = 1000000000000 := rfl
  unfold md_dc md_add
  obtain ⟨s0, hs0⟩ : ∃ z, z = md_sc m a (md_rw m 0 d H) := ⟨_, rfl⟩
  obtain ⟨s1, hs1⟩ : ∃ z, z = md_sc m b (md_rw m 1 d H) := ⟨_, rfl⟩
  rw [← hs0, ← hs1]
  by_cases h0 : rw_NV ≤ s0
  · have e1 : (if rw_NV ≤ s0 ∨ rw_NV ≤ 0 then rw_NV else 0 + s0) = rw_NV := if_pos (Or.inl h0)
    rw [e1, if_pos (Or.inr (Int.le_refl _)), if_neg (by omega)]
  · have e1 : (if rw_NV ≤ s0 ∨ rw_NV ≤ 0 then rw_NV else 0 + s0) = 0 + s0 := if_neg (by omega)
    rw [e1]
    by_cases h1 : rw_NV ≤ s1
    · rw [if_pos (Or.inl h1), if_neg (by omega)]
    · rw [if_neg (by omega), if_pos (by omega)]
      omega
/-- kept from omega -/
def Hid (P : Prop) : Prop := P
def Sbl (a j : Int) : Prop := Sdl a j ∨ Sv 18 a j ∨ Sv 25 a j
theorem Sbl_Sk : ∀ a j, Sbl a j → Sk a j := fun a j h => h.elim (Sdl_Sk a j) (fun z => z.elim (Sv_Sk (Or.inl rfl) a j) (Sv_Sk (Or.inr rfl) a j))
def Sbt (H : List Int) (a j : Int) : Prop := Sbl a j ∨ (a = 18 ∧ j = 11) ∨ (a = 25 ∧ j = 11) ∨ (12 ≤ j ∧ j ≤ 14 ∧ ∃ k ∈ H, a = nf k)
theorem Sbt_Sk {H : List Int} (hv : ∀ k ∈ H, 0 ≤ k) : ∀ a j, Sbt H a j → Sk a j := fun a j h => by
  rcases h with h | h | h | ⟨h1, h2, k, h3, h4⟩
  · exact Sbl_Sk a j h
  · unfold Sk; omega
  · unfold Sk; omega
  · have := hv k h3
    unfold nf at h4
    unfold Sk; omega
theorem Sbl_b {a j : Int} (h : Sbl a j) : (18 ≤ a ∧ a ≤ 31 ∧ ¬ ((a = 18 ∨ a = 25) ∧ (j = 11 ∨ j ≤ 7))) := by
  unfold Sbl Sdl Sd Sv Se at h
  omega
theorem FM.more {f : Int → Int} {N M v b : Int} (hNM : N ≤ M) (h : ∀ x, N ≤ x → x < M → v ≤ f x) (hv : v < rw_NV) (hF : FM f N v b) : FM f M v b := by
  rcases hF with ⟨h1, h2⟩ | ⟨h1, h2, h3, h4, h5, h6⟩
  · omega
  · refine Or.inr ⟨h1, h2, by omega, h4, fun x x0 x1 => ?_, h6⟩
    rcases Int.lt_or_le x N with q | q
    · exact h5 x x0 q
    · exact h x q x1
set_option maxHeartbeats 8000000 in
theorem pX5_setBest (n : Nat) (μ m : am_M) (a b fd p : Int) (A H B : List Int) (hl0 : Lay n μ) (hB : Bk μ) (hC : Cb n μ) (hb : BE μ m) (hP : Ph n μ A H B) (ha : μ 18 11 = a ∧ 0 ≤ a ∧ a ≤ 380) (hb' : μ 25 11 = b ∧ 0 ≤ b ∧ b ≤ 380) (hfd : μ 17 6 = fd) (hF : FDl μ a b H fd) (he6 : md_ei μ H ≤ 6) (hnd : H.Nodup) (ht : ∀ k ∈ H, μ (nf k) 11 = m 49 (m 34 k)) (htb : ∀ k ∈ H, 0 ≤ m 49 (m 34 k) ∧ m 49 (m 34 k) ≤ 400) : AC 48 [(2, 17)] n μ (PI n (fun x μ' => Of (Sbt H) μ μ' ∧ PgB m (gm μ' m x p) p a b H)) := by
  have hNV : rw_NV = 1000000000000 := rfl
  obtain ⟨p1, p2, p3, p4, p5, p6, p7⟩ := id hP
  have hBm : Bk m := hB.tr hb
  have hvH : ∀ k ∈ H, 0 ≤ k ∧ k < μ 32 8 := fun k hk => p4 k (by simp [hk])
  have hvm : ∀ k ∈ H, 0 ≤ k ∧ k < m 32 8 := fun k hk => by rw [hb.1 8 (by decide) (by decide)]; exact hvH k hk
  have hlH : H.length ≤ 24 := by simp at p3; omega
  have hei : md_ei m H = md_ei μ H := md_ei_tr hb H
  have heb := md_ei_b (μ := μ) (l := H)
  have hsb := am_shl_b heb.1 he6
  have hrm : ∀ s d, ∀ k ∈ md_rw m s d H, k ∈ H := fun s d k hk => md_ro_mem hk
  have hrl : ∀ s d, (md_rw m s d H).length ≤ 24 := fun s d => Nat.le_trans md_ro_le hlH
  have hsc0 : ∀ d, md_sc m a (md_rw m 0 d H) < rw_NV → 0 ≤ md_sc m a (md_rw m 0 d H) ∧ md_sc m a (md_rw m 0 d H) ≤ 200000 := fun d h => md_sc_bd hBm (fun k hk => hvm k (hrm 0 d k hk)) (fun k hk => htb k (hrm 0 d k hk)) (hrl 0 d) ha.2.1 h
  have hsc1 : ∀ d, md_sc m b (md_rw m 1 d H) < rw_NV → 0 ≤ md_sc m b (md_rw m 1 d H) ∧ md_sc m b (md_rw m 1 d H) ≤ 200000 := fun d h => md_sc_bd hBm (fun k hk => hvm k (hrm 1 d k hk)) (fun k hk => htb k (hrm 1 d k hk)) (hrl 1 d) hb'.2.1 h
  have hcan : ∀ d, dl_can μ a b H d ↔ md_dc m a b H d < rw_NV := by
    intro d
    rw [← dl_can_be hb]
    unfold dl_can
    rw [mr_can_iff hBm (fun k hk => hvm k (hrm 0 d k hk)) (fun k hk => htb k (hrm 0 d k hk)) (hrl 0 d) ha.2.1, mr_can_iff hBm (fun k hk => hvm k (hrm 1 d k hk)) (fun k hk => htb k (hrm 1 d k hk)) (hrl 1 d) hb'.2.1, md_dc_eq]
    constructor
    · intro h
      rw [if_pos h]
      have h0 := hsc0 d h.1
      have h1 := hsc1 d h.2
      omega
    · intro h
      by_cases hc : md_sc m a (md_rw m 0 d H) < rw_NV ∧ md_sc m b (md_rw m 1 d H) < rw_NV
      · exact hc
      · rw [if_neg hc] at h; omega
  have hdn : ∀ d, 0 ≤ md_dc m a b H d := by
    intro d
    rw [md_dc_eq]
    split
    · rename_i h
      have h0 := hsc0 d h.1
      have h1 := hsc1 d h.2
      omega
    · omega
  obtain ⟨f1, f2, f3, f4⟩ := id hF
  obtain ⟨PP, hPP⟩ : ∃ P : Option am_V → Nat → am_M → Prop, P = PI n (fun x μ' => Of (Sbt H) μ μ' ∧ PgB m (gm μ' m x p) p a b H) := ⟨_, rfl⟩
  rw [← hPP]
  -- a deal in memory alike
  have DL : ∀ (μ1 : am_M) (d : Int), Of Sbl μ μ1 → 0 ≤ d → d < am_shl (md_ei μ H) → AC 47 [(2, 17), (0, d)] n μ1 (PV n (fun μ' => Of Sbl μ μ' ∧ Ew n μ' 18 (md_top0 μ' a) ((md_rw m 0 d H).map nf) ∧ Ew n μ' 25 (md_top0 μ' b) ((md_rw m 1 d H).map nf))) := by
    intro μ1 d hO d0 d1
    have hl : Lay n μ1 := hl0.ofS hO Sbl_Sk
    have hBE := hO.kbe Sbl_Sk
    have ea : μ1 18 11 = a := (hO 18 11 (fun z => by have := Sbl_b z; omega)).trans ha.1
    have eb : μ1 25 11 = b := (hO 25 11 (fun z => by have := Sbl_b z; omega)).trans hb'.1
    have hP1 : Ph n μ1 A H B := hP.tr hBE (fun j => hO 16 j (fun z => by have := Sbl_b z; omega)) (hO 15 1 (fun z => by have := Sbl_b z; omega)) (hO 17 2 (fun z => by have := Sbl_b z; omega)) (hO 17 3 (fun z => by have := Sbl_b z; omega)) (hO 17 5 (fun z => by have := Sbl_b z; omega))
    refine AW.mono (pX5_deal n μ1 d A H B hl (hB.tr hBE) (hC.k hO Sbl_Sk) hP1 (by rw [md_ei_tr hBE]; exact he6) d0 (by omega) (by rw [ea]; omega) (by rw [eb]; omega)) ?_
    rintro q n' μ' ⟨h1, h2, h3, h4, h5⟩
    have hBE' := h3.kbe Sdl_Sk
    rw [ea, ← md_top0_tr hBE', md_rw_tr hBE, ← md_rw_tr hb] at h4
    rw [eb, ← md_top0_tr hBE', md_rw_tr hBE, ← md_rw_tr hb] at h5
    exact ⟨h1, h2, hO.tr (h3.mono (fun a j z => Or.inl z)), h4, h5⟩
  have n11 : ∀ μ1, Of Sbl μ μ1 → ∀ k ∈ H, μ1 (nf k) 11 = m 49 (m 34 k) := fun μ1 hO k hk => (hO (nf k) 11 (fun z => by
    have := Sbl_b z
    have := (hvH k hk).1
    unfold nf at *
    omega)).trans (ht k hk)
  -- the end: the best one stands
  have G : ∀ (μ1 : am_M) (v bits c0 c1 d : Int) (v6 v7 : am_V), Of Sbl μ μ1 → FM (md_dc m a b H) (am_shl (md_ei μ H)) v bits → v < rw_NV → md_best m a (md_rw m 0 bits H) c0 → md_best m b (md_rw m 1 bits H) c1 → AW none 48 112 [(2, 17), (0, v), (0, bits), (0, cutOf m (md_rw m 0 bits H) c0), (0, cutOf m (md_rw m 1 bits H) c1), (0, d), v6, v7] [] n μ1 PP := by
    intro μ1 v bits c0 c1 d v6 v7 hO hFM hv hb0 hb1
    have hl : Lay n μ1 := hl0.ofS hO Sbl_Sk
    obtain ⟨g1, g2, g3⟩ := hFM.fin hv
    have hscs : md_sc m a (md_rw m 0 bits H) < rw_NV ∧ md_sc m b (md_rw m 1 bits H) < rw_NV := by
      rw [md_dc_eq] at g3
      by_cases hc : md_sc m a (md_rw m 0 bits H) < rw_NV ∧ md_sc m b (md_rw m 1 bits H) < rw_NV
      · exact hc
      · rw [if_neg hc] at g3; omega
    have hnd0 : (md_rw m 0 bits H).Nodup := md_ro_nodup hnd
    have hnd1 : (md_rw m 1 bits H).Nodup := md_ro_nodup hnd
    have hdisj : ∀ k, k ∈ md_rw m 0 bits H → k ∈ md_rw m 1 bits H → False := fun k h1 h2 => md_ro_disj hnd h1 h2
    refine aw_aload_n (q := 113) mX5_setBest dX5_setBest_112 rfl rfl ?_
    refine aw_iload_n (q := 114) mX5_setBest dX5_setBest_113 rfl rfl ?_
    refine aw_v1 (ci := 5) (q := 117) mX5_setBest dX5_setBest_114 rfl l5_68 k48_47 rfl kd_17 rfl rfl rfl (DL μ1 bits hO g1 g2) (kvoid (fun μ5 h5 => ?_))
    obtain ⟨hO5, hE0, hE1⟩ := h5
    have hl5 : Lay n μ5 := hl0.ofS hO5 Sbl_Sk
    have hBE5 := hO5.kbe Sbl_Sk
    have hb5 : BE μ5 m := hBE5.symm.trans hb
    have hst0 := pX2_st n μ5 m 18 a c0 (md_rw m 0 bits H) (Or.inl rfl) hl5 (hB.tr hBE5) (hC.k hO5 Sbl_Sk) hb5 (fun k hk => by rw [hBE5.1 8 (by decide) (by decide)]; exact hvH k (hrm 0 bits k hk)) hnd0 ha.2 hE0 (fun k hk => n11 μ5 hO5 k (hrm 0 bits k hk)) (fun k hk => htb k (hrm 0 bits k hk)) hb0 hscs.1
    have hl := hl5
    refine aw_aload_n (q := 118) mX5_setBest dX5_setBest_117 rfl rfl ?_
    refine aw_get (t := 2) (ji := 0) (q := 121) mX5_setBest dX5_setBest_118 rfl f5_20 rfl kd_17 rfl (ly_17_0 hl) ?_
    refine aw_iload_n (q := 122) mX5_setBest dX5_setBest_121 rfl rfl ?_
    refine aw_v1 (ci := 2) (q := 125) mX5_setBest dX5_setBest_122 rfl l5_91 k48_28 rfl kd_18 rfl rfl rfl (hst0) (kvoid (fun μ6 h6 => ?_))
    obtain ⟨hO6, xs0, k1, k2, k3⟩ := h6
    have S6 : ∀ x j, St 18 ((md_rw m 0 bits H).map nf) x j → Sbt H x j := fun x j z => by
      rcases z with z | z | ⟨z1, z2, z3⟩
      · exact Or.inl (Or.inr (Or.inl (Or.inl z)))
      · exact Or.inr (Or.inl z)
      · obtain ⟨k, q1, q2⟩ := List.mem_map.mp z3
        exact Or.inr (Or.inr (Or.inr ⟨z1, z2, k, hrm 0 bits k q1, q2.symm⟩))
    have hSk : ∀ x j, Sbt H x j → Sk x j := Sbt_Sk (fun k hk => (hvH k hk).1)
    have hO6' : Of (Sbt H) μ μ6 := (hO5.mono (fun x j z => Or.inl z)).tr (hO6.mono S6)
    have hl6 : Lay n μ6 := hl0.ofS hO6' hSk
    have hBE6 := hO6'.kbe hSk
    have hb6 : BE μ6 m := hBE6.symm.trans hb
    have St18 : ∀ x j, St 18 ((md_rw m 0 bits H).map nf) x j → x < 25 ∨ 66 ≤ x := fun x j z => by
      rcases z with z | z | ⟨z1, z2, z3⟩
      · unfold Se at z; omega
      · omega
      · obtain ⟨k, q1, q2⟩ := List.mem_map.mp z3
        have := (hvH k (hrm 0 bits k q1)).1
        unfold nf at q2
        omega
    have hNE56 : NE μ5 μ6 := hO6.ne (fun x j z => hSk x j (S6 x j z))
    have hE1' : Ew n μ6 25 (md_top0 μ6 b) ((md_rw m 1 bits H).map nf) := by
      rw [md_top0_tr (hO6.kbe (fun x j z => hSk x j (S6 x j z)))]
      exact hE1.tr hNE56 (hO6 25 9 (fun z => by have := St18 _ _ z; omega)) (fun j => hO6 _ j (fun z => by have := St18 _ _ z; omega)) (fun j => hO6 _ j (fun z => by have := St18 _ _ z; omega))
    have n6 : ∀ k ∈ H, μ6 (nf k) 11 = m 49 (m 34 k) := fun k hk => (hO6 (nf k) 11 (fun z => by
      have := (hvH k hk).1
      rcases z with z | z | z
      · unfold Se nf at z; omega
      · unfold nf at z; omega
      · omega)).trans (n11 μ5 hO5 k hk)
    have hst1 := pX2_st n μ6 m 25 b c1 (md_rw m 1 bits H) (Or.inr rfl) hl6 (hB.tr hBE6) (hC.k hO6' hSk) hb6 (fun k hk => by rw [hBE6.1 8 (by decide) (by decide)]; exact hvH k (hrm 1 bits k hk)) hnd1 hb'.2 hE1' (fun k hk => n6 k (hrm 1 bits k hk)) (fun k hk => htb k (hrm 1 bits k hk)) hb1 hscs.2
    have hl := hl6
    refine aw_aload_n (q := 126) mX5_setBest dX5_setBest_125 rfl rfl ?_
    refine aw_get (t := 2) (ji := 1) (q := 129) mX5_setBest dX5_setBest_126 rfl f5_24 rfl kd_17 rfl (ly_17_1 hl) ?_
    refine aw_iload (q := 131) mX5_setBest dX5_setBest_129 rfl rfl ?_
    refine aw_v1 (ci := 2) (q := 134) mX5_setBest dX5_setBest_131 rfl l5_91 k48_28 rfl kd_25 rfl rfl rfl (hst1) (kvoid (fun μ7 h7 => ?_))
    obtain ⟨hO7, xs1, l1, l2, l3⟩ := h7
    have S7 : ∀ x j, St 25 ((md_rw m 1 bits H).map nf) x j → Sbt H x j := fun x j z => by
      rcases z with z | z | ⟨z1, z2, z3⟩
      · exact Or.inl (Or.inr (Or.inr (Or.inl z)))
      · exact Or.inr (Or.inr (Or.inl z))
      · obtain ⟨k, q1, q2⟩ := List.mem_map.mp z3
        exact Or.inr (Or.inr (Or.inr ⟨z1, z2, k, hrm 1 bits k q1, q2.symm⟩))
    have hO7' : Of (Sbt H) μ μ7 := hO6'.tr (hO7.mono S7)
    refine aw_iload_n (q := 135) mX5_setBest dX5_setBest_134 rfl rfl ?_
    refine aw_iret mX5_setBest dX5_setBest_135 ?_
    rw [hPP]
    refine ⟨v, rfl, rfl, hO7', bits, c0, c1, xs0, xs1, ?_, hv, hb0, hb1, k1, ?_, l1, ?_, ?_, ?_⟩
    · show FM (md_dc m a b H) (am_shl (md_ei m H)) v bits
      rw [hei]; exact hFM
    · intro i k x hk hx
      obtain ⟨q1, q2, q3⟩ := k2 i k x hk hx
      have hk0 := List.mem_of_getElem? hk
      have hkeep : ∀ j, μ7 (nf k) j = μ6 (nf k) j := fun j => hO7 (nf k) j (fun z => by
        have := (hvH k (hrm 0 bits k hk0)).1
        rcases z with z | z | ⟨z1, z2, z3⟩
        · unfold Se nf at z; omega
        · unfold nf at z; omega
        · obtain ⟨k', q1, q2⟩ := List.mem_map.mp z3
          rw [nf_inj q2] at q1
          exact hdisj k hk0 q1)
      show μ7 (nf k) 12 = 0 ∧ μ7 (nf k) 13 = x ∧ m 35 k + m 40 k - μ7 (nf k) 14 = _ ∧ μ7 (nf k) 14 = _ ∧ p = p
      rw [hkeep, hkeep, hkeep, q1, q2, q3]
      exact ⟨ly_18_1 hl5, rfl, by omega, rfl, rfl⟩
    · intro i k x hk hx
      obtain ⟨q1, q2, q3⟩ := l2 i k x hk hx
      show μ7 (nf k) 12 = 1 ∧ μ7 (nf k) 13 = x ∧ m 35 k + m 40 k - μ7 (nf k) 14 = _ ∧ μ7 (nf k) 14 = _ ∧ p = p
      rw [q1, q2, q3]
      exact ⟨ly_25_1 hl6, rfl, by omega, rfl, rfl⟩
    · show (if 2 * p + 2 = 2 * p + 2 then μ7 18 11 else μ7 25 11) = _
      rw [if_pos rfl, ← k3]
      exact hO7 18 11 (fun z => by
        rcases z with z | z | z
        · unfold Se at z; omega
        · omega
        · obtain ⟨k', q1, q2⟩ := List.mem_map.mp z.2.2
          have := (hvH k' (hrm 1 bits k' q1)).1
          unfold nf at q2
          omega)
    · show (if 2 * p + 3 = 2 * p + 2 then μ7 18 11 else μ7 25 11) = _
      rw [if_neg (by omega)]
      exact l3
  -- the search
  have F : ∀ (j : Nat) (d v bits bb lc rc : Int) (μ1 : am_M) (v6 v7 : am_V), fd ≤ d → d + j = am_shl (md_ei μ H) → Of Sbl μ μ1 → FM (md_dc m a b H) d v bits → Hid (v < rw_NV → bb = bits ∧ ∃ c0 c1, md_best m a (md_rw m 0 bits H) c0 ∧ lc = cutOf m (md_rw m 0 bits H) c0 ∧ md_best m b (md_rw m 1 bits H) c1 ∧ rc = cutOf m (md_rw m 1 bits H) c1) → AW none 48 19 [(2, 17), (0, min v 16777216), (0, bb), (0, lc), (0, rc), (0, d), v6, v7] [] n μ1 PP := by
    intro j
    induction j with
    | zero =>
      intro d v bits bb lc rc μ1 v6 v7 d0 dj hO hFM hc
      have hl : Lay n μ1 := hl0.ofS hO Sbl_Sk
      have hdl := pX5_dealings n μ1 hl
      rw [(hO 17 5 (fun z => by have := Sbl_b z; omega)).trans p7] at hdl
      have hde : d = am_shl (md_ei μ H) := by omega
      have hvf : v < rw_NV := (hFM.le f1 (by omega) ((hcan fd).mp f3)).1
      obtain ⟨e1, c0, c1, e2, e3, e4, e5⟩ := hc hvf
      obtain ⟨g1, g2, g3⟩ := hFM.fin hvf
      have hv4 : v ≤ 400000 := by
        rw [md_dc_eq] at g3
        by_cases hq : md_sc m a (md_rw m 0 bits H) < rw_NV ∧ md_sc m b (md_rw m 1 bits H) < rw_NV
        · rw [if_pos hq] at g3
          have h0 := hsc0 bits hq.1
          have h1 := hsc1 bits hq.2
          omega
        · rw [if_neg hq] at g3; omega
      refine aw_iload (q := 21) mX5_setBest dX5_setBest_19 rfl rfl ?_
      refine aw_aload_n (q := 22) mX5_setBest dX5_setBest_21 rfl rfl ?_
      refine aw_v0 (ci := 5) (q := 25) mX5_setBest dX5_setBest_22 rfl l5_64 k48_46 rfl kd_17 rfl rfl rfl (hdl) (kpure ?_)
      refine aw_icmp_ge (tgt := 112) (q := 28) mX5_setBest dX5_setBest_25 rfl (by decide) (fun c_25 => ?_) (fun c_25 => ?_)
      · rw [show min v 16777216 = v by omega, e1, e3, e5]
        exact G μ1 v bits c0 c1 _ _ _ hO (by rw [← hde]; exact hFM) hvf e2 e4
      · exact absurd c_25 (by omega)
    | succ j ih =>
      intro d v bits bb lc rc μ1 v6 v7 d0 dj hO hFM hc
      have hl : Lay n μ1 := hl0.ofS hO Sbl_Sk
      have hdl := pX5_dealings n μ1 hl
      rw [(hO 17 5 (fun z => by have := Sbl_b z; omega)).trans p7] at hdl
      have hvN : v ≤ rw_NV := by
        rcases hFM with ⟨h, -⟩ | ⟨h, -⟩ <;> omega
      have hv0 : 0 ≤ v := by
        rcases hFM with ⟨h, -⟩ | ⟨h, -, -, h2, -⟩
        · omega
        · rw [← h2]; exact hdn _
      obtain ⟨least, hle⟩ : ∃ z, z = min v 16777216 := ⟨_, rfl⟩
      rw [← hle]
      have hdc := md_dc_eq (m := m) (a := a) (b := b) (d := d) (H := H)
      have h0b := hsc0 d
      have h1b := hsc1 d
      obtain ⟨s0, hs0⟩ : ∃ z, z = md_sc m a (md_rw m 0 d H) := ⟨_, rfl⟩
      obtain ⟨s1, hs1⟩ : ∃ z, z = md_sc m b (md_rw m 1 d H) := ⟨_, rfl⟩
      rw [← hs0] at hdc h0b
      rw [← hs1] at hdc h1b
      -- not better
      have NX : ∀ (μ2 : am_M) (w6 w7 : am_V), Of Sbl μ μ2 → ¬ md_dc m a b H d < v → AW none 48 106 [(2, 17), (0, least), (0, bb), (0, lc), (0, rc), (0, d), w6, w7] [] n μ2 PP := by
        intro μ2 w6 w7 hO2 hn
        refine aw_iinc (q := 109) mX5_setBest dX5_setBest_106 rfl rfl (by decide) (by omega) (by omega) rfl ?_
        refine aw_goto (q := 19) mX5_setBest dX5_setBest_109 (by decide) ?_
        rw [hle]
        exact ih (d + 1) v bits bb lc rc μ2 w6 w7 (by omega) (by omega) hO2 (hFM.skip hn) hc
      refine aw_iload (q := 21) mX5_setBest dX5_setBest_19 rfl rfl ?_
      refine aw_aload_n (q := 22) mX5_setBest dX5_setBest_21 rfl rfl ?_
      refine aw_v0 (ci := 5) (q := 25) mX5_setBest dX5_setBest_22 rfl l5_64 k48_46 rfl kd_17 rfl rfl rfl (hdl) (kpure ?_)
      refine aw_icmp_ge (tgt := 112) (q := 28) mX5_setBest dX5_setBest_25 rfl (by decide) (fun c_25 => ?_) (fun c_25 => ?_)
      · exact absurd c_25 (by omega)
      · refine aw_iload_n (q := 29) mX5_setBest dX5_setBest_28 rfl rfl ?_
        refine aw_if_le (tgt := 112) (q := 32) mX5_setBest dX5_setBest_29 rfl (by decide) (fun c_29 => ?_) (fun c_29 => ?_)
        · -- nothing can be less
          have hvf : v < rw_NV := by omega
          obtain ⟨e1, c0, c1, e2, e3, e4, e5⟩ := hc hvf
          rw [show least = v by omega, e1, e3, e5]
          exact G μ1 v bits c0 c1 _ _ _ hO (hFM.more (by omega) (fun x _ _ => by have := hdn x; omega) hvf) hvf e2 e4
        · refine aw_aload_n (q := 33) mX5_setBest dX5_setBest_32 rfl rfl ?_
          refine aw_iload (q := 35) mX5_setBest dX5_setBest_33 rfl rfl ?_
          refine aw_v1 (ci := 5) (q := 38) mX5_setBest dX5_setBest_35 rfl l5_68 k48_47 rfl kd_17 rfl rfl rfl (DL μ1 d hO (by omega) (by omega)) (kvoid (fun μ2 h2 => ?_))
          obtain ⟨hO2, hE0, hE1⟩ := h2
          have hl2 : Lay n μ2 := hl0.ofS hO2 Sbl_Sk
          have hBE2 := hO2.kbe Sbl_Sk
          have hb2 : BE μ2 m := hBE2.symm.trans hb
          have hch0 := pX2_ch n μ2 m 18 a least (md_rw m 0 d H) (Or.inl rfl) hl2 (hB.tr hBE2) (hC.k hO2 Sbl_Sk) hb2 (fun k hk => by rw [hBE2.1 8 (by decide) (by decide)]; exact hvH k (hrm 0 d k hk)) ha.2 hE0 (fun k hk => n11 μ2 hO2 k (hrm 0 d k hk)) (fun k hk => htb k (hrm 0 d k hk)) (by omega)
          rw [← hs0] at hch0
          have hl := hl2
          refine aw_aload_n (q := 39) mX5_setBest dX5_setBest_38 rfl rfl ?_
          refine aw_get (t := 2) (ji := 0) (q := 42) mX5_setBest dX5_setBest_39 rfl f5_20 rfl kd_17 rfl (ly_17_0 hl) ?_
          refine aw_iload_n (q := 43) mX5_setBest dX5_setBest_42 rfl rfl ?_
          refine aw_v1 (ci := 2) (q := 46) mX5_setBest dX5_setBest_43 rfl l5_84 k48_27 rfl kd_18 rfl rfl rfl (hch0) (kint (fun x μ3 hx => ?_))
          obtain ⟨hO3, hx, hbx⟩ := hx
          replace hbx : Hid _ := hbx
          have hO3' : Of Sbl μ μ3 := hO2.tr (hO3.mono (fun a j z => Or.inr (Or.inl z)))
          have hl3 : Lay n μ3 := hl0.ofS hO3' Sbl_Sk
          have hBE3 := hO3'.kbe Sbl_Sk
          have hb3 : BE μ3 m := hBE3.symm.trans hb
          have hl := hl3
          have hdl' : md_dc m a b H d < v → s0 < least ∧ s1 < least - s0 ∧ md_dc m a b H d = s0 + s1 := by
            intro hlt
            by_cases hq : s0 < rw_NV ∧ s1 < rw_NV
            · rw [if_pos hq] at hdc
              have q0 := h0b hq.1
              have q1 := h1b hq.2
              omega
            · rw [if_neg hq] at hdc; omega
          refine aw_istore (q := 48) mX5_setBest dX5_setBest_46 rfl (by decide) rfl ?_
          refine aw_iload (q := 50) mX5_setBest dX5_setBest_48 rfl rfl ?_
          refine aw_iload_n (q := 51) mX5_setBest dX5_setBest_50 rfl rfl ?_
          refine aw_icmp_ge (tgt := 68) (q := 54) mX5_setBest dX5_setBest_51 rfl (by decide) (fun c_51 => ?_) (fun c_51 => ?_)
          · -- the left side costs too much
            refine aw_iconst (q := 69) mX5_setBest dX5_setBest_68 rfl rfl ?_
            refine aw_istore (q := 71) mX5_setBest dX5_setBest_69 rfl (by decide) rfl ?_
            refine aw_iload (q := 73) mX5_setBest dX5_setBest_71 rfl rfl ?_
            refine aw_iload (q := 75) mX5_setBest dX5_setBest_73 rfl rfl ?_
            refine aw_iadd (q := 76) mX5_setBest dX5_setBest_75 rfl (by omega) (by omega) ?_
            refine aw_iload_n (q := 77) mX5_setBest dX5_setBest_76 rfl rfl ?_
            refine aw_icmp_ge (tgt := 106) (q := 80) mX5_setBest dX5_setBest_77 rfl (by decide) (fun c_77 => ?_) (fun c_77 => ?_)
            · exact NX μ3 _ _ hO3' (fun z => by have := hdl' z; omega)
            · exact absurd c_77 (by omega)
          · have hx0 : s0 < least := by omega
            have hxe : x = s0 := by omega
            have q0 := h0b (by omega)
            have hE1' : Ew n μ3 25 (md_top0 μ3 b) ((md_rw m 1 d H).map nf) := by
              rw [md_top0_tr (hO3.kbe (Sv_Sk (Or.inl rfl)))]
              exact hE1.tr (hO3.ne (Sv_Sk (Or.inl rfl))) (hO3 25 9 (by unfold Sv Se; omega)) (fun j => hO3 _ j (by unfold Sv Se; omega)) (fun j => hO3 _ j (by unfold Sv Se; omega))
            have hch1 := pX2_ch n μ3 m 25 b (least - x) (md_rw m 1 d H) (Or.inr rfl) hl3 (hB.tr hBE3) (hC.k hO3' Sbl_Sk) hb3 (fun k hk => by rw [hBE3.1 8 (by decide) (by decide)]; exact hvH k (hrm 1 d k hk)) hb'.2 hE1' (fun k hk => n11 μ3 hO3' k (hrm 1 d k hk)) (fun k hk => htb k (hrm 1 d k hk)) (by omega)
            rw [← hs1] at hch1
            refine aw_aload_n (q := 55) mX5_setBest dX5_setBest_54 rfl rfl ?_
            refine aw_get (t := 2) (ji := 1) (q := 58) mX5_setBest dX5_setBest_55 rfl f5_24 rfl kd_17 rfl (ly_17_1 hl) ?_
            refine aw_iload_n (q := 59) mX5_setBest dX5_setBest_58 rfl rfl ?_
            refine aw_iload (q := 61) mX5_setBest dX5_setBest_59 rfl rfl ?_
            refine aw_isub (q := 62) mX5_setBest dX5_setBest_61 rfl (by omega) (by omega) ?_
            refine aw_v1 (ci := 2) (q := 65) mX5_setBest dX5_setBest_62 rfl l5_84 k48_27 rfl kd_25 rfl rfl rfl (hch1) (kint (fun y μ4 hy => ?_))
            obtain ⟨hO4, hy, hby⟩ := hy
            replace hby : Hid _ := hby
            have hO4' : Of Sbl μ μ4 := hO3'.tr (hO4.mono (fun a j z => Or.inr (Or.inr z)))
            have hl4 : Lay n μ4 := hl0.ofS hO4' Sbl_Sk
            have hl := hl4
            have hs1n : 0 ≤ s1 := by
              by_cases hq : s1 < rw_NV
              · exact (h1b hq).1
              · omega
            refine aw_goto (q := 69) mX5_setBest dX5_setBest_65 (by decide) ?_
            refine aw_istore (q := 71) mX5_setBest dX5_setBest_69 rfl (by decide) rfl ?_
            refine aw_iload (q := 73) mX5_setBest dX5_setBest_71 rfl rfl ?_
            refine aw_iload (q := 75) mX5_setBest dX5_setBest_73 rfl rfl ?_
            refine aw_iadd (q := 76) mX5_setBest dX5_setBest_75 rfl (by omega) (by omega) ?_
            refine aw_iload_n (q := 77) mX5_setBest dX5_setBest_76 rfl rfl ?_
            refine aw_icmp_ge (tgt := 106) (q := 80) mX5_setBest dX5_setBest_77 rfl (by decide) (fun c_77 => ?_) (fun c_77 => ?_)
            · exact NX μ4 _ _ hO4' (fun z => by have := hdl' z; omega)
            · have hys : y = s1 := by omega
              have hdv : md_dc m a b H d = x + y := by rw [hdc, if_pos (by omega)]; omega
              obtain ⟨c0, t1, t2⟩ := hbx hx0
              obtain ⟨c1, t3, t4⟩ := hby (by omega)
              have e18 : μ4 18 12 = cutOf m (md_rw m 0 d H) c0 := (hO4 18 12 (by unfold Sv Se; omega)).trans t2
              refine aw_iload (q := 82) mX5_setBest dX5_setBest_80 rfl rfl ?_
              refine aw_iload (q := 84) mX5_setBest dX5_setBest_82 rfl rfl ?_
              refine aw_iadd (q := 85) mX5_setBest dX5_setBest_84 rfl (by omega) (by omega) ?_
              refine aw_istore_n (q := 86) mX5_setBest dX5_setBest_85 rfl (by decide) rfl ?_
              refine aw_iload (q := 88) mX5_setBest dX5_setBest_86 rfl rfl ?_
              refine aw_istore_n (q := 89) mX5_setBest dX5_setBest_88 rfl (by decide) rfl ?_
              refine aw_aload_n (q := 90) mX5_setBest dX5_setBest_89 rfl rfl ?_
              refine aw_get (t := 2) (ji := 0) (q := 93) mX5_setBest dX5_setBest_90 rfl f5_20 rfl kd_17 rfl (ly_17_0 hl) ?_
              refine aw_get (t := 0) (ji := 12) (q := 96) mX5_setBest dX5_setBest_93 rfl f5_88 rfl kd_18 rfl e18 ?_
              refine aw_istore_n (q := 97) mX5_setBest dX5_setBest_96 rfl (by decide) rfl ?_
              refine aw_aload_n (q := 98) mX5_setBest dX5_setBest_97 rfl rfl ?_
              refine aw_get (t := 2) (ji := 1) (q := 101) mX5_setBest dX5_setBest_98 rfl f5_24 rfl kd_17 rfl (ly_17_1 hl) ?_
              refine aw_get (t := 0) (ji := 12) (q := 104) mX5_setBest dX5_setBest_101 rfl f5_88 rfl kd_25 rfl t4 ?_
              refine aw_istore (q := 106) mX5_setBest dX5_setBest_104 rfl (by decide) rfl ?_
              refine aw_iinc (q := 109) mX5_setBest dX5_setBest_106 rfl rfl (by decide) (by omega) (by omega) rfl ?_
              refine aw_goto (q := 19) mX5_setBest dX5_setBest_109 (by decide) ?_
              have h9 := ih (d + 1) (md_dc m a b H d) d d (cutOf m (md_rw m 0 d H) c0) (cutOf m (md_rw m 1 d H) c1) μ4 (0, x) (0, y) (by omega) (by omega) hO4' (hFM.take (by omega) (by omega)) (fun _ => ⟨rfl, c0, c1, t1, rfl, t3, rfl⟩)
              rw [show min (md_dc m a b H d) 16777216 = x + y by omega] at h9
              exact h9
  have hl := hl0
  refine AC.of rfl ?_
  refine aw_ldc (q := 2) mX5_setBest dX5_setBest_0 rfl ld5_83 ?_
  refine aw_istore_n (q := 3) mX5_setBest dX5_setBest_2 rfl (by decide) rfl ?_
  refine aw_aload_n (q := 4) mX5_setBest dX5_setBest_3 rfl rfl ?_
  refine aw_get (t := 0) (ji := 6) (q := 7) mX5_setBest dX5_setBest_4 rfl f5_40 rfl kd_17 rfl hfd ?_
  refine aw_istore_n (q := 8) mX5_setBest dX5_setBest_7 rfl (by decide) rfl ?_
  refine aw_iconst (q := 9) mX5_setBest dX5_setBest_8 rfl rfl ?_
  refine aw_istore_n (q := 10) mX5_setBest dX5_setBest_9 rfl (by decide) rfl ?_
  refine aw_iconst (q := 11) mX5_setBest dX5_setBest_10 rfl rfl ?_
  refine aw_istore (q := 13) mX5_setBest dX5_setBest_11 rfl (by decide) rfl ?_
  refine aw_aload_n (q := 14) mX5_setBest dX5_setBest_13 rfl rfl ?_
  refine aw_get (t := 0) (ji := 6) (q := 17) mX5_setBest dX5_setBest_14 rfl f5_40 rfl kd_17 rfl hfd ?_
  refine aw_istore (q := 19) mX5_setBest dX5_setBest_17 rfl (by decide) rfl ?_
  have h9 := F (am_shl (md_ei μ H) - fd).toNat fd rw_NV 0 fd 0 0 μ (9, 0) (9, 0) (Int.le_refl _) (by omega) Of.rf (Or.inl ⟨rfl, fun x x0 x1 => by
    have := mt (hcan x).mpr (f4 x x0 x1)
    omega⟩) (fun z => by omega)
  rw [show min rw_NV 16777216 = 16777216 by omega] at h9
  exact h9

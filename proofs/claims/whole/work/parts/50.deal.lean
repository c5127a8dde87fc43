/-! the class's PageSetter: deal -/
/-- the bit of the dealing that the next EITHER note reads, k of them being left -/
def bt (k : Int) : Int := if k ≤ 0 then 0 else 2 ^ (k - 1).toNat
def am_and (x y : Int) : Int := (Int32.ofInt x &&& Int32.ofInt y).toInt
def am_sr1 (x : Int) : Int := (Int32.ofInt x >>> (Int32.ofInt 1 &&& 31)).toInt
theorem bt_shl : ∀ k : Fin 7, am_sr1 (am_shl (k : Int)) = bt (k : Int) := by decide +kernel
theorem bt_sr : ∀ k : Fin 7, am_sr1 (bt (k : Int)) = bt ((k : Int) - 1) := by decide +kernel
theorem bt_and : ∀ (d : Fin 64) (k : Fin 6), decide (am_and (d : Int) (bt ((k : Int) + 1)) ≠ 0) = decide (am_bit (d : Int) (k : Int) = 1) := by decide +kernel
theorem bt_shl' {k : Int} (h0 : 0 ≤ k) (h1 : k ≤ 6) : am_sr1 (am_shl k) = bt k := by
  have := bt_shl ⟨k.toNat, by omega⟩
  rw [show (((⟨k.toNat, by omega⟩ : Fin 7) : Nat) : Int) = k by show ((k.toNat : Nat) : Int) = k; omega] at this
  exact this
theorem bt_sr' {k : Int} (h0 : 0 ≤ k) (h1 : k ≤ 6) : am_sr1 (bt k) = bt (k - 1) := by
  have := bt_sr ⟨k.toNat, by omega⟩
  rw [show (((⟨k.toNat, by omega⟩ : Fin 7) : Nat) : Int) = k by show ((k.toNat : Nat) : Int) = k; omega] at this
  exact this
theorem bt_and' {d k : Int} (d0 : 0 ≤ d) (d1 : d < 64) (h0 : 1 ≤ k) (h1 : k ≤ 6) : am_and d (bt k) ≠ 0 ↔ am_bit d (k - 1) = 1 := by
  have := bt_and ⟨d.toNat, by omega⟩ ⟨(k - 1).toNat, by omega⟩
  rw [show (((⟨d.toNat, by omega⟩ : Fin 64) : Nat) : Int) = d by show ((d.toNat : Nat) : Int) = d; omega, show (((⟨(k - 1).toNat, by omega⟩ : Fin 6) : Nat) : Int) = k - 1 by show (((k - 1).toNat : Nat) : Int) = k - 1; omega, show k - 1 + 1 = k by omega] at this
  exact decide_eq_decide.mp this
theorem pX5_dealings (n : Nat) (μ : am_M) (hl : Lay n μ) : AC 46 [(2, 17)] n μ (PU (0, am_shl (μ 17 5)) n μ) := by
  refine AC.of rfl ?_
  refine aw_iconst (q := 1) mX5_dealings dX5_dealings_0 rfl rfl ?_
  refine aw_aload_n (q := 2) mX5_dealings dX5_dealings_1 rfl rfl ?_
  refine aw_get (t := 0) (ji := 5) (q := 5) mX5_dealings dX5_dealings_2 rfl f5_37 rfl kd_17 rfl rfl ?_
  refine aw_ishl (q := 6) mX5_dealings dX5_dealings_5 rfl rfl ?_
  refine aw_iret mX5_dealings dX5_dealings_6 ?_
  exact ⟨rfl, rfl, rfl⟩
def Sdl (a j : Int) : Prop := Sd 18 a j ∨ Sd 25 a j
theorem Sdl_Sk : ∀ a j, Sdl a j → Sk a j := fun a j h => h.elim (Sd_Sk (Or.inl rfl) a j) (Sd_Sk (Or.inr rfl) a j)
theorem Em.tr {n : Nat} {μ μ1 : am_M} {e s : Int} {r : List Int} (h : NE μ μ1) (h9 : μ1 e 9 = μ e 9) (h10 : μ1 e 10 = μ e 10) (h1 : ∀ j, μ1 (e + 1) j = μ (e + 1) j) (h2 : ∀ j, μ1 (e + 2) j = μ (e + 2) j) (hE : Em n μ e s r) : Em n μ1 e s r := by
  refine ⟨hE.1.tr h h9 h1 h2, ?_⟩
  rw [h10, hE.2, (ed_sh_tr (h.1 5 (by decide) (by decide)) (fun x hx => h.2 x 8 (hE.1.2.2.2.2.1 x hx).1.1 (by omega))).2]
/-- the page at hand: the notes H of ORDER, between A and B -/
def Ph (n : Nat) (μ : am_M) (A H B : List Int) : Prop := Ar μ 16 ((A ++ H ++ B).map nf) ∧ μ 15 1 = ((A ++ H ++ B).length : Int) ∧ (A ++ H ++ B).length ≤ 24 ∧ (∀ k ∈ A ++ H ++ B, 0 ≤ k ∧ k < μ 32 8) ∧ μ 17 2 = (A.length : Int) ∧ μ 17 3 = ((A ++ H).length : Int) ∧ μ 17 5 = md_ei μ H
theorem pX5_deal (n : Nat) (μ : am_M) (d : Int) (A H B : List Int) (hl0 : Lay n μ) (hB : Bk μ) (hC : Cb n μ) (hP : Ph n μ A H B) (he6 : md_ei μ H ≤ 6) (d0 : 0 ≤ d) (d1 : d < 64) (ha : 0 ≤ μ 18 11 ∧ μ 18 11 ≤ 380) (hb : 0 ≤ μ 25 11 ∧ μ 25 11 ≤ 380) : AC 47 [(2, 17), (0, d)] n μ (PV n (fun μ' => Of Sdl μ μ' ∧ Ew n μ' 18 (md_top0 μ (μ 18 11)) ((md_rw μ 0 d H).map nf) ∧ Ew n μ' 25 (md_top0 μ (μ 25 11)) ((md_rw μ 1 d H).map nf))) := by
  obtain ⟨p1, p2, p3, p4, p5, p6, p7⟩ := id hP
  obtain ⟨b1, b2, b3, b4, b5, b6, b7, b8, b9⟩ := id hB
  obtain ⟨cn, ⟨c2, c3, c4, c5, c6, c7, c8⟩, ch, ck⟩ := id hC
  have hbc := hC.bc hB
  have heb := md_ei_b (μ := μ) (l := H)
  have hst0 : md_top0 μ (μ 18 11) = if 0 < μ 18 11 then μ 18 11 + μ 1 5 else 0 := by unfold md_top0; rw [c5]
  have hst1 : md_top0 μ (μ 25 11) = if 0 < μ 25 11 then μ 25 11 + μ 1 5 else 0 := by unfold md_top0; rw [c5]
  have hsb0 : 0 ≤ md_top0 μ (μ 18 11) ∧ md_top0 μ (μ 18 11) ≤ 400 := by unfold md_top0; split <;> omega
  have hsb1 : 0 ≤ md_top0 μ (μ 25 11) ∧ md_top0 μ (μ 25 11) ≤ 400 := by unfold md_top0; split <;> omega
  have hAHl : (A ++ H).length = A.length + H.length := List.length_append
  have F : ∀ (suf pre L R : List Int) (k : Int) (μ1 : am_M) (v4 v5 : am_V), H = pre ++ suf → md_ro 0 H (md_sds μ d (md_ei μ H) H) = L ++ md_ro 0 suf (md_sds μ d k suf) → md_ro 1 H (md_sds μ d (md_ei μ H) H) = R ++ md_ro 1 suf (md_sds μ d k suf) → L.length + R.length = pre.length → (∀ x ∈ L ++ R, x ∈ H) → k = md_ei μ suf → k ≤ 6 → Of Sdl μ μ1 → Em n μ1 18 (md_top0 μ (μ 18 11)) (L.map nf) → Em n μ1 25 (md_top0 μ (μ 25 11)) (R.map nf) → AW none 47 26 [(2, 17), (0, d), (0, bt k), (0, (A.length : Int) + (pre.length : Int)), v4, v5] [] n μ1 (PV n (fun μ' => Of Sdl μ μ' ∧ Ew n μ' 18 (md_top0 μ (μ 18 11)) ((md_rw μ 0 d H).map nf) ∧ Ew n μ' 25 (md_top0 μ (μ 25 11)) ((md_rw μ 1 d H).map nf))) := by
    intro suf
    induction suf with
    | nil =>
      intro pre L R k μ1 v4 v5 hH hL hR hlen hmem hk hk6 hO hE0 hE1
      have hl : Lay n μ1 := hl0.ofS hO Sdl_Sk
      have e3 : μ1 17 3 = ((A ++ H).length : Int) := (hO 17 3 (by unfold Sdl Sd; omega)).trans p6
      have hpl : H.length = pre.length := by rw [hH]; simp
      refine aw_iload_n (q := 27) mX5_deal dX5_deal_26 rfl rfl ?_
      refine aw_aload_n (q := 28) mX5_deal dX5_deal_27 rfl rfl ?_
      refine aw_get (t := 0) (ji := 3) (q := 31) mX5_deal dX5_deal_28 rfl f5_31 rfl kd_17 rfl e3 ?_
      refine aw_icmp_ge (tgt := 119) (q := 34) mX5_deal dX5_deal_31 rfl (by decide) (fun c_31 => ?_) (fun c_31 => ?_)
      · refine aw_vret mX5_deal dX5_deal_119 ?_
        refine ⟨rfl, rfl, hO, ?_, ?_⟩
        · unfold md_rw; rw [hL]; simp [md_ro]; exact hE0.1
        · unfold md_rw; rw [hR]; simp [md_ro]; exact hE1.1
      · exact absurd c_31 (by omega)
    | cons x suf ih =>
      intro pre L R k μ1 v4 v5 hH hL hR hlen hmem hk hk6 hO hE0 hE1
      have hl : Lay n μ1 := hl0.ofS hO Sdl_Sk
      have hNE := hO.ne Sdl_Sk
      have e3 : μ1 17 3 = ((A ++ H).length : Int) := (hO 17 3 (by unfold Sdl Sd; omega)).trans p6
      have hpl : H.length = pre.length + suf.length + 1 := by rw [hH]; simp; omega
      have hABl : (A ++ H ++ B).length = A.length + H.length + B.length := by simp; omega
      have hxH : x ∈ H := by rw [hH]; simp
      obtain ⟨x0, x1⟩ := p4 x (by simp [hxH])
      have hxr : Nr n (nf x) := nf_r hC x0 x1
      obtain ⟨-, m⟩ := ck x x0 x1
      obtain ⟨m0, m1, m2, m3, m5, m6, m7, m8, m9, m10, mc⟩ := m
      obtain ⟨n1, n2, n3, n4, -⟩ := b9 x x0 x1
      obtain ⟨a, hna⟩ : ∃ a, a = nf x := ⟨_, rfl⟩
      rw [← hna] at hxr m2
      have hk_a := hxr.k
      have ha66 := hxr.1
      have er : μ1 16 ((A.length : Int) + (pre.length : Int)) = a := (hO 16 _ (by unfold Sdl Sd; omega)).trans (by
        have h9 := p1
        rw [hH, show A ++ (pre ++ x :: suf) ++ B = (A ++ pre) ++ x :: (suf ++ B) by simp, List.map_append, List.map_cons] at h9
        have := Ar.mid h9
        rw [List.length_map, List.length_append] at this
        rw [hna, ← this]
        congr 1)
      have e2 : μ1 a 2 = μ 37 x := (hO a 2 (by unfold Sdl Sd; omega)).trans m2
      have hNc : Nc μ1 a := by rw [hna]; exact (nf_c hB hC x0 x1).tr hNE (by rw [← hna]; exact hxr)
      have hH2 : H = (pre ++ [x]) ++ suf := by rw [hH]; simp
      have hLl : L.length ≤ pre.length := by omega
      have hRl : R.length ≤ pre.length := by omega
      have hks : md_ei μ (x :: suf) = (if μ 37 x = 2 then 1 else 0) + md_ei μ suf := rfl
      have hsufb := md_ei_b (μ := μ) (l := suf)
      -- to the left
      have GL : ∀ (k' : Int) (w4 : Int), k' = md_ei μ suf → md_sds μ d k (x :: suf) = 0 :: md_sds μ d k' suf → AW none 47 104 [(2, 17), (0, d), (0, bt k'), (0, (A.length : Int) + (pre.length : Int)), (2, a), (0, w4)] [] n μ1 (PV n (fun μ' => Of Sdl μ μ' ∧ Ew n μ' 18 (md_top0 μ (μ 18 11)) ((md_rw μ 0 d H).map nf) ∧ Ew n μ' 25 (md_top0 μ (μ 25 11)) ((md_rw μ 1 d H).map nf))) := by
        intro k' w4 hk' hsd
        have hadd := pX2_add n μ1 18 (md_top0 μ (μ 18 11)) a (L.map nf) (Or.inl rfl) hl (hbc.tr hNE) hE0 hxr hNc (by simp; omega)
        refine aw_aload_n (q := 105) mX5_deal dX5_deal_104 rfl rfl ?_
        refine aw_get (t := 2) (ji := 0) (q := 108) mX5_deal dX5_deal_105 rfl f5_20 rfl kd_17 rfl (ly_17_0 hl) ?_
        refine aw_aload (q := 110) mX5_deal dX5_deal_108 rfl rfl ?_
        refine aw_v1 (ci := 2) (q := 113) mX5_deal dX5_deal_110 rfl l5_79 k47_24 rfl kd_18 rfl rfl rfl (hadd) (kvoid (fun μ2 h2 => ?_))
        obtain ⟨q1, q2⟩ := h2
        have hO2 : Of Sdl μ μ2 := hO.tr (q1.mono (fun a j z => Or.inl z))
        have hl : Lay n μ2 := hl0.ofS hO2 Sdl_Sk
        have h9 := ih (pre ++ [x]) (L ++ [x]) R k' μ2 (2, a) (0, w4) hH2 (by rw [hL, hsd]; simp [md_ro]) (by rw [hR, hsd]; simp [md_ro]) (by simp; omega) (fun z hz => by
          rcases List.mem_append.mp hz with hz | hz
          · rcases List.mem_append.mp hz with hz | hz
            · exact hmem z (List.mem_append_left _ hz)
            · have : z = x := by simpa using hz
              rw [this]; exact hxH
          · exact hmem z (List.mem_append_right _ hz)) hk' (by omega) hO2 (by rw [List.map_append]; rw [hna] at q2; exact q2) (hE1.tr (q1.ne (Sd_Sk (Or.inl rfl))) (q1 25 9 (by unfold Sd; omega)) (q1 25 10 (by unfold Sd; omega)) (fun j => q1 _ j (by unfold Sd; omega)) (fun j => q1 _ j (by unfold Sd; omega)))
        refine aw_iinc (q := 116) mX5_deal dX5_deal_113 rfl rfl (by decide) (by omega) (by omega) rfl ?_
        refine aw_goto (q := 26) mX5_deal dX5_deal_116 (by decide) ?_
        rw [List.length_append] at h9
        rw [show (A.length : Int) + (pre.length : Int) + 1 = (A.length : Int) + ((pre.length + [x].length : Nat) : Int) by simp; omega]
        exact h9
      have GR : ∀ (k' : Int) (w4 : Int), k' = md_ei μ suf → md_sds μ d k (x :: suf) = 1 :: md_sds μ d k' suf → AW none 47 92 [(2, 17), (0, d), (0, bt k'), (0, (A.length : Int) + (pre.length : Int)), (2, a), (0, w4)] [] n μ1 (PV n (fun μ' => Of Sdl μ μ' ∧ Ew n μ' 18 (md_top0 μ (μ 18 11)) ((md_rw μ 0 d H).map nf) ∧ Ew n μ' 25 (md_top0 μ (μ 25 11)) ((md_rw μ 1 d H).map nf))) := by
        intro k' w4 hk' hsd
        have hadd := pX2_add n μ1 25 (md_top0 μ (μ 25 11)) a (R.map nf) (Or.inr rfl) hl (hbc.tr hNE) hE1 hxr hNc (by simp; omega)
        refine aw_aload_n (q := 93) mX5_deal dX5_deal_92 rfl rfl ?_
        refine aw_get (t := 2) (ji := 1) (q := 96) mX5_deal dX5_deal_93 rfl f5_24 rfl kd_17 rfl (ly_17_1 hl) ?_
        refine aw_aload (q := 98) mX5_deal dX5_deal_96 rfl rfl ?_
        refine aw_v1 (ci := 2) (q := 101) mX5_deal dX5_deal_98 rfl l5_79 k47_24 rfl kd_25 rfl rfl rfl (hadd) (kvoid (fun μ2 h2 => ?_))
        obtain ⟨q1, q2⟩ := h2
        have hO2 : Of Sdl μ μ2 := hO.tr (q1.mono (fun a j z => Or.inr z))
        have hl : Lay n μ2 := hl0.ofS hO2 Sdl_Sk
        have h9 := ih (pre ++ [x]) L (R ++ [x]) k' μ2 (2, a) (0, w4) hH2 (by rw [hL, hsd]; simp [md_ro]) (by rw [hR, hsd]; simp [md_ro]) (by simp; omega) (fun z hz => by
          rcases List.mem_append.mp hz with hz | hz
          · exact hmem z (List.mem_append_left _ hz)
          · rcases List.mem_append.mp hz with hz | hz
            · exact hmem z (List.mem_append_right _ hz)
            · have : z = x := by simpa using hz
              rw [this]; exact hxH) hk' (by omega) hO2 (hE0.tr (q1.ne (Sd_Sk (Or.inr rfl))) (q1 18 9 (by unfold Sd; omega)) (q1 18 10 (by unfold Sd; omega)) (fun j => q1 _ j (by unfold Sd; omega)) (fun j => q1 _ j (by unfold Sd; omega))) (by rw [List.map_append]; rw [hna] at q2; exact q2)
        refine aw_goto (q := 113) mX5_deal dX5_deal_101 (by decide) ?_
        refine aw_iinc (q := 116) mX5_deal dX5_deal_113 rfl rfl (by decide) (by omega) (by omega) rfl ?_
        refine aw_goto (q := 26) mX5_deal dX5_deal_116 (by decide) ?_
        rw [List.length_append] at h9
        rw [show (A.length : Int) + (pre.length : Int) + 1 = (A.length : Int) + ((pre.length + [x].length : Nat) : Int) by simp; omega]
        exact h9
      -- the side is told, or read off the dealing
      have K : ∀ z : Int, (z = 1 ∧ μ 37 x = 1 ∨ z = 0 ∧ μ 37 x ≠ 1) → AW none 47 59 [(2, 17), (0, d), (0, bt k), (0, (A.length : Int) + (pre.length : Int)), (2, a), v5] [(0, z)] n μ1 (PV n (fun μ' => Of Sdl μ μ' ∧ Ew n μ' 18 (md_top0 μ (μ 18 11)) ((md_rw μ 0 d H).map nf) ∧ Ew n μ' 25 (md_top0 μ (μ 25 11)) ((md_rw μ 1 d H).map nf))) := by
        intro z hz
        refine aw_istore (q := 61) mX5_deal dX5_deal_59 rfl (by decide) rfl ?_
        refine aw_aload (q := 63) mX5_deal dX5_deal_61 rfl rfl ?_
        refine aw_get (t := 0) (ji := 2) (q := 66) mX5_deal dX5_deal_63 rfl f5_57 rfl hk_a rfl e2 ?_
        refine aw_iconst (q := 67) mX5_deal dX5_deal_66 rfl rfl ?_
        refine aw_icmp_ne (tgt := 87) (q := 70) mX5_deal dX5_deal_67 rfl (by decide) (fun c_67 => ?_) (fun c_67 => ?_)
        · -- told
          have hsd : md_sds μ d k (x :: suf) = μ 37 x :: md_sds μ d k suf := by rw [md_sds, if_pos (by omega)]
          have hk' : k = md_ei μ suf := by rw [hk, hks, if_neg c_67]; omega
          refine aw_iload (q := 89) mX5_deal dX5_deal_87 rfl rfl ?_
          refine aw_if_eq (tgt := 104) (q := 92) mX5_deal dX5_deal_89 rfl (by decide) (fun c_89 => ?_) (fun c_89 => ?_)
          · exact GL k _ hk' (by rw [hsd, show μ 37 x = 0 by omega])
          · exact GR k _ hk' (by rw [hsd, show μ 37 x = 1 by omega])
        · have h2x : μ 37 x = 2 := Decidable.not_not.mp c_67
          have hk' : k - 1 = md_ei μ suf := by rw [hk, hks, if_pos h2x]; omega
          have hk1 : 1 ≤ k := by omega
          have hsd : md_sds μ d k (x :: suf) = am_bit d (k - 1) :: md_sds μ d (k - 1) suf := by rw [md_sds, if_neg (by omega)]
          have hba := bt_and' d0 d1 hk1 hk6
          have hsr : (Int32.ofInt (bt k) >>> (Int32.ofInt 1 &&& 31)).toInt = bt (k - 1) := bt_sr' (by omega) hk6
          refine aw_iload_n (q := 71) mX5_deal dX5_deal_70 rfl rfl ?_
          refine aw_iload_n (q := 72) mX5_deal dX5_deal_71 rfl rfl ?_
          refine aw_iand (q := 73) mX5_deal dX5_deal_72 rfl rfl ?_
          refine aw_if_eq (tgt := 80) (q := 76) mX5_deal dX5_deal_73 rfl (by decide) (fun c_73 => ?_) (fun c_73 => ?_)
          · have hz0 : am_bit d (k - 1) = 0 := (am_bit01 d (k - 1)).resolve_right (fun q => hba.mpr q c_73)
            refine aw_iconst (q := 81) mX5_deal dX5_deal_80 rfl rfl ?_
            refine aw_istore (q := 83) mX5_deal dX5_deal_81 rfl (by decide) rfl ?_
            refine aw_iload_n (q := 84) mX5_deal dX5_deal_83 rfl rfl ?_
            refine aw_iconst (q := 85) mX5_deal dX5_deal_84 rfl rfl ?_
            refine aw_ishr (q := 86) mX5_deal dX5_deal_85 rfl hsr ?_
            refine aw_istore_n (q := 87) mX5_deal dX5_deal_86 rfl (by decide) rfl ?_
            refine aw_iload (q := 89) mX5_deal dX5_deal_87 rfl rfl ?_
            refine aw_if_eq (tgt := 104) (q := 92) mX5_deal dX5_deal_89 rfl (by decide) (fun c_89 => ?_) (fun c_89 => ?_)
            · exact GL (k - 1) _ hk' (by rw [hsd, hz0])
            · exact absurd rfl c_89
          · have hz1 : am_bit d (k - 1) = 1 := hba.mp c_73
            refine aw_iconst (q := 77) mX5_deal dX5_deal_76 rfl rfl ?_
            refine aw_goto (q := 81) mX5_deal dX5_deal_77 (by decide) ?_
            refine aw_istore (q := 83) mX5_deal dX5_deal_81 rfl (by decide) rfl ?_
            refine aw_iload_n (q := 84) mX5_deal dX5_deal_83 rfl rfl ?_
            refine aw_iconst (q := 85) mX5_deal dX5_deal_84 rfl rfl ?_
            refine aw_ishr (q := 86) mX5_deal dX5_deal_85 rfl hsr ?_
            refine aw_istore_n (q := 87) mX5_deal dX5_deal_86 rfl (by decide) rfl ?_
            refine aw_iload (q := 89) mX5_deal dX5_deal_87 rfl rfl ?_
            refine aw_if_eq (tgt := 104) (q := 92) mX5_deal dX5_deal_89 rfl (by decide) (fun c_89 => ?_) (fun c_89 => ?_)
            · exact absurd c_89 (by decide)
            · exact GR (k - 1) _ hk' (by rw [hsd, hz1])
      refine aw_iload_n (q := 27) mX5_deal dX5_deal_26 rfl rfl ?_
      refine aw_aload_n (q := 28) mX5_deal dX5_deal_27 rfl rfl ?_
      refine aw_get (t := 0) (ji := 3) (q := 31) mX5_deal dX5_deal_28 rfl f5_31 rfl kd_17 rfl e3 ?_
      refine aw_icmp_ge (tgt := 119) (q := 34) mX5_deal dX5_deal_31 rfl (by decide) (fun c_31 => ?_) (fun c_31 => ?_)
      · exact absurd c_31 (by omega)
      · refine aw_aload_n (q := 35) mX5_deal dX5_deal_34 rfl rfl ?_
        refine aw_get (t := 2) (ji := 4) (q := 38) mX5_deal dX5_deal_35 rfl f5_9 rfl kd_17 rfl (ly_17_4 hl) ?_
        refine aw_get (t := 2) (ji := 0) (q := 41) mX5_deal dX5_deal_38 rfl f5_48 rfl kd_15 rfl (ly_15_0 hl) ?_
        refine aw_iload_n (q := 42) mX5_deal dX5_deal_41 rfl rfl ?_
        refine aw_aald (q := 43) mX5_deal dX5_deal_42 rfl kd_16 (by omega) (by omega) er ?_
        refine aw_astore (q := 45) mX5_deal dX5_deal_43 rfl (by decide) rfl ?_
        refine aw_aload (q := 47) mX5_deal dX5_deal_45 rfl rfl ?_
        refine aw_get (t := 0) (ji := 2) (q := 50) mX5_deal dX5_deal_47 rfl f5_57 rfl hk_a rfl e2 ?_
        refine aw_iconst (q := 51) mX5_deal dX5_deal_50 rfl rfl ?_
        refine aw_icmp_ne (tgt := 58) (q := 54) mX5_deal dX5_deal_51 rfl (by decide) (fun c_51 => ?_) (fun c_51 => ?_)
        · refine aw_iconst (q := 59) mX5_deal dX5_deal_58 rfl rfl ?_
          exact K 0 (Or.inr ⟨rfl, c_51⟩)
        · refine aw_iconst (q := 55) mX5_deal dX5_deal_54 rfl rfl ?_
          refine aw_goto (q := 59) mX5_deal dX5_deal_55 (by decide) ?_
          exact K 1 (Or.inl ⟨rfl, Decidable.not_not.mp c_51⟩)
  have hl := hl0
  refine AC.of rfl ?_
  refine aw_aload_n (q := 1) mX5_deal dX5_deal_0 rfl rfl ?_
  refine aw_get (t := 2) (ji := 0) (q := 4) mX5_deal dX5_deal_1 rfl f5_20 rfl kd_17 rfl (ly_17_0 hl) ?_
  refine aw_v0 (ci := 2) (q := 7) mX5_deal dX5_deal_4 rfl l5_76 k47_23 rfl kd_18 rfl rfl rfl (pX2_clear n μ 18 (Or.inl rfl) hl0 hbc (by omega)) (kvoid (fun μ1 h1 => ?_))
  obtain ⟨q1, q2, q3⟩ := h1
  have hl1 : Lay n μ1 := hl0.ofS q1 (Sd_Sk (Or.inl rfl))
  have hl := hl1
  have hc1 := hbc.tr (q1.ne (Sd_Sk (Or.inl rfl)))
  have e11 : μ1 25 11 = μ 25 11 := q1 25 11 (by unfold Sd; omega)
  have hcl := pX2_clear n μ1 25 (Or.inr rfl) hl1 hc1 (by rw [e11]; omega)
  refine aw_aload_n (q := 8) mX5_deal dX5_deal_7 rfl rfl ?_
  refine aw_get (t := 2) (ji := 1) (q := 11) mX5_deal dX5_deal_8 rfl f5_24 rfl kd_17 rfl (ly_17_1 hl) ?_
  refine aw_v0 (ci := 2) (q := 14) mX5_deal dX5_deal_11 rfl l5_76 k47_23 rfl kd_25 rfl rfl rfl (hcl) (kvoid (fun μ2 h2 => ?_))
  obtain ⟨r1, r2, r3⟩ := h2
  have hO2 : Of Sdl μ μ2 := (q1.mono (fun a j z => Or.inl z)).tr (r1.mono (fun a j z => Or.inr z))
  have hl2 : Lay n μ2 := hl0.ofS hO2 Sdl_Sk
  have hl := hl2
  have e5 : μ2 17 5 = md_ei μ H := (hO2 17 5 (by unfold Sdl Sd; omega)).trans p7
  have e2 : μ2 17 2 = (A.length : Int) := (hO2 17 2 (by unfold Sdl Sd; omega)).trans p5
  have hdl := pX5_dealings n μ2 hl2
  rw [e5] at hdl
  have hsh : (Int32.ofInt (am_shl (md_ei μ H)) >>> (Int32.ofInt 1 &&& 31)).toInt = bt (md_ei μ H) := bt_shl' heb.1 he6
  refine aw_aload_n (q := 15) mX5_deal dX5_deal_14 rfl rfl ?_
  refine aw_v0 (ci := 5) (q := 18) mX5_deal dX5_deal_15 rfl l5_64 k47_46 rfl kd_17 rfl rfl rfl (hdl) (kpure ?_)
  refine aw_iconst (q := 19) mX5_deal dX5_deal_18 rfl rfl ?_
  refine aw_ishr (q := 20) mX5_deal dX5_deal_19 rfl hsh ?_
  refine aw_istore_n (q := 21) mX5_deal dX5_deal_20 rfl (by decide) rfl ?_
  refine aw_aload_n (q := 22) mX5_deal dX5_deal_21 rfl rfl ?_
  refine aw_get (t := 0) (ji := 2) (q := 25) mX5_deal dX5_deal_22 rfl f5_34 rfl kd_17 rfl e2 ?_
  refine aw_istore_n (q := 26) mX5_deal dX5_deal_25 rfl (by decide) rfl ?_
  have g9 : μ2 18 9 = 0 := (r1 18 9 (by unfold Sd; omega)).trans q2
  have g10 : μ2 18 10 = md_top0 μ (μ 18 11) := (r1 18 10 (by unfold Sd; omega)).trans (q3.trans hst0.symm)
  have g10' : μ2 25 10 = md_top0 μ (μ 25 11) := by rw [r3, e11, hst1, q1 1 5 (by unfold Sd; omega)]
  have h9 := F H [] [] [] (md_ei μ H) μ2 (9, 0) (9, 0) rfl rfl rfl rfl (fun x h => by simp at h) rfl he6 hO2 ⟨⟨by rw [g9]; rfl, by decide, Ar.nil, Ar.nil, fun x h => by simp at h, hsb0⟩, g10⟩ ⟨⟨by rw [r2]; rfl, by decide, Ar.nil, Ar.nil, fun x h => by simp at h, hsb1⟩, g10'⟩
  rw [show (A.length : Int) + (([] : List Int).length : Int) = (A.length : Int) by simp] at h9
  exact h9

def am_shl (e : Int) : Int := (Int32.ofInt 1 <<< (Int32.ofInt e &&& 31)).toInt
theorem am_shl_b {e : Int} (h0 : 0 ≤ e) (h1 : e ≤ 6) : am_shl e = 2 ^ e.toNat ∧ 1 ≤ am_shl e ∧ am_shl e ≤ 64 := by
  have : e = 0 ∨ e = 1 ∨ e = 2 ∨ e = 3 ∨ e = 4 ∨ e = 5 ∨ e = 6 := by omega
  rcases this with rfl | rfl | rfl | rfl | rfl | rfl | rfl <;> decide
def md_ls (μ : am_M) (fr : Int) : Nat → Int
  | 0 => 0
  | m + 1 => md_ls μ fr m + μ 33 (fr + (m : Int))
theorem md_sds_tr {μ μ1 : am_M} (hb : BE μ μ1) (bits : Int) : ∀ (l : List Int) (k : Int), md_sds μ1 bits k l = md_sds μ bits k l := by
  intro l
  induction l with
  | nil => intro k; rfl
  | cons x r ih => intro k; unfold md_sds; rw [hb.2 37 _ (by decide) (by decide), ih, ih]
/-- a PAGE of these LINES is HELD -/
def md_held (μ : am_M) (fr many left right : Int) : Prop := md_ls μ fr many.toNat ≤ μ 32 2 ∧ md_ei μ (md_hr μ fr many.toNat) ≤ 6 ∧ ∃ bits, 0 ≤ bits ∧ bits < am_shl (md_ei μ (md_hr μ fr many.toNat)) ∧ mr_can μ left (md_ro 0 (md_hr μ fr many.toNat) (md_sds μ bits (md_ei μ (md_hr μ fr many.toNat)) (md_hr μ fr many.toNat))) ∧ mr_can μ right (md_ro 1 (md_hr μ fr many.toNat) (md_sds μ bits (md_ei μ (md_hr μ fr many.toNat)) (md_hr μ fr many.toNat)))
def Sh (a j : Int) : Prop := a = 56 ∨ a = 57 ∨ a = 59 ∨ (a = 32 ∧ (j = 39 ∨ j = 40))
theorem Sh_Sw : ∀ a j, Sh a j → Sw a j := fun a j h => by unfold Sh at h; unfold Sw; omega
theorem pX7_isHeld (n : Nat) (μ : am_M) (fr many left right : Int) (hl0 : Lay n μ) (hB : Bk μ) (hf : 0 ≤ fr) (hm0 : 0 ≤ many) (hmm : fr + many ≤ μ 32 7) (hL0 : 0 ≤ left) (hL1 : left ≤ 400) (hR0 : 0 ≤ right) (hR1 : right ≤ 400) : AC 116 [(2, 32), (0, fr), (0, many), (0, left), (0, right)] n μ (PI n (fun x μ' => Of Sh μ μ' ∧ ((x = 1 ∧ md_held μ fr many left right) ∨ (x = 0 ∧ ¬ md_held μ fr many left right)))) := by
  obtain ⟨b1, b2, b3, b4, b5, b6, b7, b8, b9⟩ := id hB
  have hl := hl0
  obtain ⟨H, hH⟩ : ∃ H, H = md_hr μ fr many.toNat := ⟨_, rfl⟩
  obtain ⟨ei, hei⟩ : ∃ e, e = md_ei μ H := ⟨_, rfl⟩
  have hHl : H.length ≤ 24 := by rw [hH]; exact Nat.le_trans md_hr_le (by omega)
  have hHv : ∀ k ∈ H, 0 ≤ k ∧ k < μ 32 8 := fun k hk => by rw [hH] at hk; have := md_hr_mem hk; omega
  have heb := md_ei_b (μ := μ) (l := H)
  rw [← hei] at heb
  have hdef : md_held μ fr many left right = (md_ls μ fr many.toNat ≤ μ 32 2 ∧ ei ≤ 6 ∧ ∃ bits, 0 ≤ bits ∧ bits < am_shl ei ∧ mr_can μ left (md_ro 0 H (md_sds μ bits ei H)) ∧ mr_can μ right (md_ro 1 H (md_sds μ bits ei H))) := by rw [hei, hH]; rfl
  rw [hdef]
  -- the search over the sides
  have G : ∀ (d : Nat) (bits : Int) (μ1 : am_M), ei ≤ 6 → md_ls μ fr many.toNat ≤ μ 32 2 → 0 ≤ bits → bits + d = am_shl ei → (∀ b, 0 ≤ b → b < bits → ¬ (mr_can μ left (md_ro 0 H (md_sds μ b ei H)) ∧ mr_can μ right (md_ro 1 H (md_sds μ b ei H)))) → Of Sh μ μ1 → Ar μ1 56 H → μ1 32 39 = (H.length : Int) → AW none 116 61 [(2, 32), (0, fr), (0, many), (0, left), (0, right), (0, md_ls μ fr many.toNat), (0, ei), (0, bits)] [] n μ1 (PI n (fun x μ' => Of Sh μ μ' ∧ ((x = 1 ∧ (md_ls μ fr many.toNat ≤ μ 32 2 ∧ ei ≤ 6 ∧ ∃ bits, 0 ≤ bits ∧ bits < am_shl ei ∧ mr_can μ left (md_ro 0 H (md_sds μ bits ei H)) ∧ mr_can μ right (md_ro 1 H (md_sds μ bits ei H)))) ∨ (x = 0 ∧ ¬ (md_ls μ fr many.toNat ≤ μ 32 2 ∧ ei ≤ 6 ∧ ∃ bits, 0 ≤ bits ∧ bits < am_shl ei ∧ mr_can μ left (md_ro 0 H (md_sds μ bits ei H)) ∧ mr_can μ right (md_ro 1 H (md_sds μ bits ei H))))))) := by
    intro d
    induction d with
    | zero =>
      intro bits μ1 he hls hb0 hbd hno hO hA hn
      have hl : Lay n μ1 := hl0.ofW (hO.mono Sh_Sw)
      refine aw_iload (q := 63) mX7_isHeld dX7_isHeld_61 rfl rfl ?_
      refine aw_iconst (q := 64) mX7_isHeld dX7_isHeld_63 rfl rfl ?_
      refine aw_iload (q := 66) mX7_isHeld dX7_isHeld_64 rfl rfl ?_
      refine aw_ishl (q := 67) mX7_isHeld dX7_isHeld_66 rfl rfl ?_
      refine aw_icmp_ge (tgt := 105) (q := 70) mX7_isHeld dX7_isHeld_67 rfl (by decide) (fun c_67 => ?_) (fun c_67 => ?_)
      · refine aw_iconst (q := 106) mX7_isHeld dX7_isHeld_105 rfl rfl ?_
        refine aw_zret mX7_isHeld dX7_isHeld_106 (by first | exact Or.inl rfl | exact Or.inr rfl | assumption | omega) ?_
        refine ⟨0, rfl, rfl, hO, Or.inr ⟨rfl, ?_⟩⟩
        rintro ⟨-, -, b, k1, k2, k3⟩
        exact hno b k1 (by omega) k3
      · exact absurd c_67 (by show ¬ ¬ am_shl ei ≤ bits; omega)
    | succ d ih =>
      intro bits μ1 he hls hb0 hbd hno hO hA hn
      have hl : Lay n μ1 := hl0.ofW (hO.mono Sh_Sw)
      have hBE := (hO.mono Sh_Sw).beW
      have hB1 := hB.tr hBE
      have hsb := am_shl_b heb.1 he
      have e8 : μ1 32 8 = μ 32 8 := hBE.1 8 (by decide) (by decide)
      have e49 : ∀ j, μ1 49 j = μ 49 j := fun j => hO 49 j (by unfold Sh; omega)
      refine aw_iload (q := 63) mX7_isHeld dX7_isHeld_61 rfl rfl ?_
      refine aw_iconst (q := 64) mX7_isHeld dX7_isHeld_63 rfl rfl ?_
      refine aw_iload (q := 66) mX7_isHeld dX7_isHeld_64 rfl rfl ?_
      refine aw_ishl (q := 67) mX7_isHeld dX7_isHeld_66 rfl rfl ?_
      refine aw_icmp_ge (tgt := 105) (q := 70) mX7_isHeld dX7_isHeld_67 rfl (by decide) (fun c_67 => ?_) (fun c_67 => ?_)
      · exact absurd (show am_shl ei ≤ bits from c_67) (by omega)
      · refine aw_aload_n (q := 71) mX7_isHeld dX7_isHeld_70 rfl rfl ?_
        refine aw_iload (q := 73) mX7_isHeld dX7_isHeld_71 rfl rfl ?_
        refine aw_iload (q := 75) mX7_isHeld dX7_isHeld_73 rfl rfl ?_
        refine aw_v2 (ci := 7) (q := 78) mX7_isHeld dX7_isHeld_75 rfl l7_179 k116_111 rfl kd_32 rfl rfl rfl (pX7_sides n μ1 ei bits H hl hB1 hA hn hHl (fun k hk => by rw [e8]; exact hHv k hk) (by omega)) (kvoid (fun μ2 hq => ?_))
        obtain ⟨hO2, hS2⟩ := hq
        rw [md_sds_tr hBE] at hS2
        have hO2' : Of Sh μ μ2 := fun a j hs => (hO2 a j (fun z => hs (Or.inr (Or.inl z)))).trans (hO a j hs)
        have hl2 : Lay n μ2 := hl0.ofW (hO2'.mono Sh_Sw)
        have hBE2 := (hO2'.mono Sh_Sw).beW
        have hB2 := hB.tr hBE2
        have hA2 : Ar μ2 56 H := hA.to (fun j => hO2 56 j (by decide))
        have hn2 : μ2 32 39 = (H.length : Int) := (hO2 32 39 (by decide)).trans hn
        have e82 : μ2 32 8 = μ 32 8 := hBE2.1 8 (by decide) (by decide)
        have e492 : ∀ j, μ2 49 j = μ 49 j := fun j => hO2' 49 j (by unfold Sh; omega)
        have hl := hl2
        refine aw_aload_n (q := 79) mX7_isHeld dX7_isHeld_78 rfl rfl ?_
        refine aw_iconst (q := 80) mX7_isHeld dX7_isHeld_79 rfl rfl ?_
        refine aw_iload_n (q := 81) mX7_isHeld dX7_isHeld_80 rfl rfl ?_
        refine aw_v2 (ci := 7) (q := 84) mX7_isHeld dX7_isHeld_81 rfl l7_183 k116_117 rfl kd_32 rfl rfl rfl (pX7_canStand n μ2 0 left H (md_sds μ bits ei H) hl2 hB2 hA2 hS2 hn2 md_sds_len hHl (fun k hk => by rw [e82]; exact hHv k hk) hL0 hL1) (kint (fun x μ3 hx => ?_))
        obtain ⟨hO3, hx⟩ := hx
        rw [mr_can_tr hBE2 e492] at hx
        have hO3' : Of Sh μ μ3 := fun a j hs => (hO3 a j (fun z => hs (by unfold Sr at z; unfold Sh; omega))).trans (hO2' a j hs)
        have hl3 : Lay n μ3 := hl0.ofW (hO3'.mono Sh_Sw)
        have hA3 : Ar μ3 56 H := hA2.to (fun j => hO3 56 j (by unfold Sr; omega))
        have hS3 : Ar μ3 57 (md_sds μ bits ei H) := hS2.to (fun j => hO3 57 j (by unfold Sr; omega))
        have hn3 : μ3 32 39 = (H.length : Int) := (hO3 32 39 (by unfold Sr; omega)).trans hn2
        have hl := hl3
        -- the next bits
        have N : ∀ μ4, Of Sh μ μ4 → Ar μ4 56 H → μ4 32 39 = (H.length : Int) → ¬ (mr_can μ left (md_ro 0 H (md_sds μ bits ei H)) ∧ mr_can μ right (md_ro 1 H (md_sds μ bits ei H))) → AW none 116 99 [(2, 32), (0, fr), (0, many), (0, left), (0, right), (0, md_ls μ fr many.toNat), (0, ei), (0, bits)] [] n μ4 (PI n (fun x μ' => Of Sh μ μ' ∧ ((x = 1 ∧ (md_ls μ fr many.toNat ≤ μ 32 2 ∧ ei ≤ 6 ∧ ∃ bits, 0 ≤ bits ∧ bits < am_shl ei ∧ mr_can μ left (md_ro 0 H (md_sds μ bits ei H)) ∧ mr_can μ right (md_ro 1 H (md_sds μ bits ei H)))) ∨ (x = 0 ∧ ¬ (md_ls μ fr many.toNat ≤ μ 32 2 ∧ ei ≤ 6 ∧ ∃ bits, 0 ≤ bits ∧ bits < am_shl ei ∧ mr_can μ left (md_ro 0 H (md_sds μ bits ei H)) ∧ mr_can μ right (md_ro 1 H (md_sds μ bits ei H))))))) := by
          intro μ4 hO4 hA4 hn4 hnot
          refine aw_iinc (q := 102) mX7_isHeld dX7_isHeld_99 rfl rfl (by decide) (by omega) (by omega) rfl ?_
          refine aw_goto (q := 61) mX7_isHeld dX7_isHeld_102 (by decide) ?_
          refine ih (bits + 1) μ4 he hls (by omega) (by omega) (fun b k1 k2 => ?_) hO4 hA4 hn4
          by_cases hbe : b = bits
          · rw [hbe]; exact hnot
          · exact hno b k1 (by omega)
        refine aw_if_eq (tgt := 99) (q := 87) mX7_isHeld dX7_isHeld_84 rfl (by decide) (fun c_84 => ?_) (fun c_84 => ?_)
        · refine N μ3 hO3' hA3 hn3 (fun z => ?_)
          rcases hx with ⟨h1, -⟩ | ⟨-, h2⟩
          · omega
          · exact h2 z.1
        · have hleft : mr_can μ left (md_ro 0 H (md_sds μ bits ei H)) := by
            rcases hx with ⟨-, h2⟩ | ⟨h1, -⟩
            · exact h2
            · exact absurd h1 c_84
          have hBE3 := (hO3'.mono Sh_Sw).beW
          have e83 : μ3 32 8 = μ 32 8 := hBE3.1 8 (by decide) (by decide)
          have e493 : ∀ j, μ3 49 j = μ 49 j := fun j => hO3' 49 j (by unfold Sh; omega)
          refine aw_aload_n (q := 88) mX7_isHeld dX7_isHeld_87 rfl rfl ?_
          refine aw_iconst (q := 89) mX7_isHeld dX7_isHeld_88 rfl rfl ?_
          refine aw_iload (q := 91) mX7_isHeld dX7_isHeld_89 rfl rfl ?_
          refine aw_v2 (ci := 7) (q := 94) mX7_isHeld dX7_isHeld_91 rfl l7_183 k116_117 rfl kd_32 rfl rfl rfl (pX7_canStand n μ3 1 right H (md_sds μ bits ei H) hl3 (hB.tr hBE3) hA3 hS3 hn3 md_sds_len hHl (fun k hk => by rw [e83]; exact hHv k hk) hR0 hR1) (kint (fun y μ5 hy => ?_))
          obtain ⟨hO5, hy⟩ := hy
          rw [mr_can_tr hBE3 e493] at hy
          have hO5' : Of Sh μ μ5 := fun a j hs => (hO5 a j (fun z => hs (by unfold Sr at z; unfold Sh; omega))).trans (hO3' a j hs)
          refine aw_if_eq (tgt := 99) (q := 97) mX7_isHeld dX7_isHeld_94 rfl (by decide) (fun c_94 => ?_) (fun c_94 => ?_)
          · refine N μ5 hO5' (hA3.to (fun j => hO5 56 j (by unfold Sr; omega))) ((hO5 32 39 (by unfold Sr; omega)).trans hn3) (fun z => ?_)
            rcases hy with ⟨h1, -⟩ | ⟨-, h2⟩
            · omega
            · exact h2 z.2
          · refine aw_iconst (q := 98) mX7_isHeld dX7_isHeld_97 rfl rfl ?_
            refine aw_zret mX7_isHeld dX7_isHeld_98 (by first | exact Or.inl rfl | exact Or.inr rfl | assumption | omega) ?_
            refine ⟨1, rfl, rfl, hO5', Or.inl ⟨rfl, hls, he, bits, hb0, by omega, hleft, ?_⟩⟩
            rcases hy with ⟨-, h2⟩ | ⟨h1, -⟩
            · exact h2
            · exact absurd h1 c_94
  -- the heights
  have hlsb : ∀ m : Nat, (m : Int) ≤ many → 0 ≤ md_ls μ fr m ∧ md_ls μ fr m ≤ 50 * (m : Int) := by
    intro m
    induction m with
    | zero => intro _; simp [md_ls]
    | succ m ih =>
      intro h
      have h1 := ih (by omega)
      have h2 := b8 (fr + (m : Int)) (by omega) (by omega)
      unfold md_ls
      omega
  have F : ∀ (d m : Nat) (v7 : am_V), (m : Int) + d = many → AW none 116 6 [(2, 32), (0, fr), (0, many), (0, left), (0, right), (0, md_ls μ fr m), (0, fr + (m : Int)), v7] [] n μ (PI n (fun x μ' => Of Sh μ μ' ∧ ((x = 1 ∧ (md_ls μ fr many.toNat ≤ μ 32 2 ∧ ei ≤ 6 ∧ ∃ bits, 0 ≤ bits ∧ bits < am_shl ei ∧ mr_can μ left (md_ro 0 H (md_sds μ bits ei H)) ∧ mr_can μ right (md_ro 1 H (md_sds μ bits ei H)))) ∨ (x = 0 ∧ ¬ (md_ls μ fr many.toNat ≤ μ 32 2 ∧ ei ≤ 6 ∧ ∃ bits, 0 ≤ bits ∧ bits < am_shl ei ∧ mr_can μ left (md_ro 0 H (md_sds μ bits ei H)) ∧ mr_can μ right (md_ro 1 H (md_sds μ bits ei H))))))) := by
    intro d
    induction d with
    | zero =>
      intro m v7 hm
      have em : many.toNat = m := by omega
      refine aw_iload (q := 8) mX7_isHeld dX7_isHeld_6 rfl rfl ?_
      refine aw_iload_n (q := 9) mX7_isHeld dX7_isHeld_8 rfl rfl ?_
      refine aw_iload_n (q := 10) mX7_isHeld dX7_isHeld_9 rfl rfl ?_
      refine aw_iadd (q := 11) mX7_isHeld dX7_isHeld_10 rfl (by omega) (by omega) ?_
      refine aw_icmp_ge (tgt := 32) (q := 14) mX7_isHeld dX7_isHeld_11 rfl (by decide) (fun c_11 => ?_) (fun c_11 => ?_)
      · refine aw_aload_n (q := 33) mX7_isHeld dX7_isHeld_32 rfl rfl ?_
        refine aw_iload_n (q := 34) mX7_isHeld dX7_isHeld_33 rfl rfl ?_
        refine aw_iload_n (q := 35) mX7_isHeld dX7_isHeld_34 rfl rfl ?_
        refine aw_v2 (ci := 7) (q := 38) mX7_isHeld dX7_isHeld_35 rfl l7_176 k116_110 rfl kd_32 rfl rfl rfl (pX7_gather n μ fr many hl0 hB hf hm0 (by omega)) (kint (fun x μ1 hx => ?_))
        rw [← hH, ← hei] at hx
        obtain ⟨hxe, hO, hA, hn⟩ := hx
        subst hxe
        rw [← em]
        have hO' : Of Sh μ μ1 := hO.mono (fun a j z => by unfold Sg at z; unfold Sh; omega)
        have hl : Lay n μ1 := hl0.ofW (hO'.mono Sh_Sw)
        have e2 : μ1 32 2 = μ 32 2 := hO 32 2 (by unfold Sg; omega)
        refine aw_istore (q := 40) mX7_isHeld dX7_isHeld_38 rfl (by decide) rfl ?_
        refine aw_iload (q := 42) mX7_isHeld dX7_isHeld_40 rfl rfl ?_
        refine aw_aload_n (q := 43) mX7_isHeld dX7_isHeld_42 rfl rfl ?_
        refine aw_get (t := 0) (ji := 2) (q := 46) mX7_isHeld dX7_isHeld_43 rfl f7_7 rfl kd_32 rfl e2 ?_
        refine aw_icmp_gt (tgt := 56) (q := 49) mX7_isHeld dX7_isHeld_46 rfl (by decide) (fun c_46 => ?_) (fun c_46 => ?_)
        · refine aw_iconst (q := 57) mX7_isHeld dX7_isHeld_56 rfl rfl ?_
          refine aw_zret mX7_isHeld dX7_isHeld_57 (by first | exact Or.inl rfl | exact Or.inr rfl | assumption | omega) ?_
          exact ⟨0, rfl, rfl, hO', Or.inr ⟨rfl, fun z => by omega⟩⟩
        · refine aw_iload (q := 51) mX7_isHeld dX7_isHeld_49 rfl rfl ?_
          refine aw_bipush (q := 53) mX7_isHeld dX7_isHeld_51 rfl rfl ?_
          refine aw_icmp_le (tgt := 58) (q := 56) mX7_isHeld dX7_isHeld_53 rfl (by decide) (fun c_53 => ?_) (fun c_53 => ?_)
          · refine aw_iconst (q := 59) mX7_isHeld dX7_isHeld_58 rfl rfl ?_
            refine aw_istore (q := 61) mX7_isHeld dX7_isHeld_59 rfl (by decide) rfl ?_
            have hsb := am_shl_b heb.1 c_53
            exact G (am_shl x).toNat 0 μ1 c_53 (by omega) (by decide) (by omega) (fun b k1 k2 => by omega) hO' hA hn
          · refine aw_iconst (q := 57) mX7_isHeld dX7_isHeld_56 rfl rfl ?_
            refine aw_zret mX7_isHeld dX7_isHeld_57 (by first | exact Or.inl rfl | exact Or.inr rfl | assumption | omega) ?_
            exact ⟨0, rfl, rfl, hO', Or.inr ⟨rfl, fun z => by omega⟩⟩
      · exact absurd c_11 (by omega)
    | succ d ih =>
      intro m v7 hm
      have h1 := hlsb m (by omega)
      have h2 := b8 (fr + (m : Int)) (by omega) (by omega)
      refine aw_iload (q := 8) mX7_isHeld dX7_isHeld_6 rfl rfl ?_
      refine aw_iload_n (q := 9) mX7_isHeld dX7_isHeld_8 rfl rfl ?_
      refine aw_iload_n (q := 10) mX7_isHeld dX7_isHeld_9 rfl rfl ?_
      refine aw_iadd (q := 11) mX7_isHeld dX7_isHeld_10 rfl (by omega) (by omega) ?_
      refine aw_icmp_ge (tgt := 32) (q := 14) mX7_isHeld dX7_isHeld_11 rfl (by decide) (fun c_11 => ?_) (fun c_11 => ?_)
      · exact absurd c_11 (by omega)
      · refine aw_iload (q := 16) mX7_isHeld dX7_isHeld_14 rfl rfl ?_
        refine aw_aload_n (q := 17) mX7_isHeld dX7_isHeld_16 rfl rfl ?_
        refine aw_get (t := 2) (ji := 9) (q := 20) mX7_isHeld dX7_isHeld_17 rfl f7_22 rfl kd_32 rfl (ly_32_9 hl) ?_
        refine aw_iload (q := 22) mX7_isHeld dX7_isHeld_20 rfl rfl ?_
        refine aw_iald (q := 23) mX7_isHeld dX7_isHeld_22 rfl kd_33 (by omega) (by omega) rfl ?_
        refine aw_iadd (q := 24) mX7_isHeld dX7_isHeld_23 rfl (by omega) (by omega) ?_
        refine aw_istore (q := 26) mX7_isHeld dX7_isHeld_24 rfl (by decide) rfl ?_
        refine aw_iinc (q := 29) mX7_isHeld dX7_isHeld_26 rfl rfl (by decide) (by omega) (by omega) rfl ?_
        refine aw_goto (q := 6) mX7_isHeld dX7_isHeld_29 (by decide) ?_
        have h9 := ih (m + 1) v7 (by omega)
        rw [md_ls, show fr + ((m + 1 : Nat) : Int) = fr + (m : Int) + 1 by omega] at h9
        exact h9
  refine AC.of rfl ?_
  refine aw_iconst (q := 1) mX7_isHeld dX7_isHeld_0 rfl rfl ?_
  refine aw_istore (q := 3) mX7_isHeld dX7_isHeld_1 rfl (by decide) rfl ?_
  refine aw_iload_n (q := 4) mX7_isHeld dX7_isHeld_3 rfl rfl ?_
  refine aw_istore (q := 6) mX7_isHeld dX7_isHeld_4 rfl (by decide) rfl ?_
  have h9 := F many.toNat 0 (9, 0) (by omega)
  rw [show fr + ((0 : Nat) : Int) = fr by omega] at h9
  exact h9

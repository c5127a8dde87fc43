/-! the class's PageSetter: findDealing, takeNotesOf -/
def dl_can (μ : am_M) (a b : Int) (H : List Int) (d : Int) : Prop := mr_can μ a (md_rw μ 0 d H) ∧ mr_can μ b (md_rw μ 1 d H)
/-- the first dealing that has a setting -/
def FDl (μ : am_M) (a b : Int) (H : List Int) (fd : Int) : Prop := 0 ≤ fd ∧ fd < am_shl (md_ei μ H) ∧ dl_can μ a b H fd ∧ ∀ d, 0 ≤ d → d < fd → ¬ dl_can μ a b H d
def am_shx (x y : Int) : Int := (Int32.ofInt x <<< (Int32.ofInt y &&& 31)).toInt
theorem shx_f : ∀ (d : Fin 64) (f : Fin 7), am_shx (d : Int) (f : Int) = (d : Int) * 2 ^ (f : Nat) := by decide +kernel
theorem bit_f : ∀ (d : Fin 64) (f : Fin 7) (j : Fin 6), (j : Nat) + (f : Nat) ≤ 5 → am_bit (d : Int) ((j : Int) + (f : Int)) = am_bit (((d : Nat) / 2 ^ (f : Nat) : Nat) : Int) (j : Int) := by decide +kernel
theorem shx_f' {d f : Int} (d0 : 0 ≤ d) (d1 : d < 64) (f0 : 0 ≤ f) (f1 : f ≤ 6) : am_shx d f = d * 2 ^ f.toNat := by
  have := shx_f ⟨d.toNat, by omega⟩ ⟨f.toNat, by omega⟩
  rw [show (((⟨d.toNat, by omega⟩ : Fin 64) : Nat) : Int) = d by show ((d.toNat : Nat) : Int) = d; omega, show (((⟨f.toNat, by omega⟩ : Fin 7) : Nat) : Int) = f by show ((f.toNat : Nat) : Int) = f; omega] at this
  exact this
/-- the dealing without its last f bits -/
def dl_up (d f : Int) : Int := ((d.toNat / 2 ^ f.toNat : Nat) : Int)
theorem bit_f' {d f j : Int} (d0 : 0 ≤ d) (d1 : d < 64) (f0 : 0 ≤ f) (j0 : 0 ≤ j) (h : j + f ≤ 5) : am_bit d (j + f) = am_bit (dl_up d f) j := by
  have := bit_f ⟨d.toNat, by omega⟩ ⟨f.toNat, by omega⟩ ⟨j.toNat, by omega⟩ (by show j.toNat + f.toNat ≤ 5; omega)
  rw [show (((⟨d.toNat, by omega⟩ : Fin 64) : Nat) : Int) = d by show ((d.toNat : Nat) : Int) = d; omega, show (((⟨f.toNat, by omega⟩ : Fin 7) : Nat) : Int) = f by show ((f.toNat : Nat) : Int) = f; omega, show (((⟨j.toNat, by omega⟩ : Fin 6) : Nat) : Int) = j by show ((j.toNat : Nat) : Int) = j; omega] at this
  exact this
theorem md_sds_app {μ : am_M} {d f : Int} {N : List Int} (d0 : 0 ≤ d) (d1 : d < 64) (f0 : 0 ≤ f) : ∀ {H : List Int} {k : Int}, (∀ z ∈ H, μ 37 z ≤ 2) → k = md_ei μ H → k + f ≤ 6 → md_sds μ d (k + f) (H ++ N) = md_sds μ (dl_up d f) k H ++ md_sds μ d f N := by
  intro H
  induction H with
  | nil => intro k _ hk _; rw [show k + f = f by rw [hk]; show 0 + f = f; omega]; rfl
  | cons x H ih =>
    intro k hs hk hk6
    have hs1 := hs x List.mem_cons_self
    have hs2 : ∀ z ∈ H, μ 37 z ≤ 2 := fun z hz => hs z (List.mem_cons_of_mem _ hz)
    have hks : md_ei μ (x :: H) = (if μ 37 x = 2 then 1 else 0) + md_ei μ H := rfl
    have hb := md_ei_b (μ := μ) (l := H)
    show md_sds μ d (k + f) (x :: (H ++ N)) = md_sds μ (dl_up d f) k (x :: H) ++ _
    rw [md_sds, md_sds]
    by_cases h2 : μ 37 x < 2
    · rw [if_pos h2, if_pos h2, ih hs2 (by rw [hk, hks, if_neg (by omega)]; omega) hk6]
      rfl
    · by_cases h3 : μ 37 x = 2
      · rw [if_neg h2, if_neg h2, show k + f - 1 = (k - 1) + f by omega, ih (k := k - 1) hs2 (by rw [hk, hks, if_pos h3]; omega) (by omega), bit_f' d0 d1 f0 (by rw [hk, hks, if_pos h3]; omega) (by omega)]
        rfl
      · omega
theorem md_ro_app {s : Int} {N q' : List Int} : ∀ {H q : List Int}, q.length = H.length → md_ro s (H ++ N) (q ++ q') = md_ro s H q ++ md_ro s N q' := by
  intro H
  induction H with
  | nil => intro q hq; cases q with
    | nil => rfl
    | cons a b => simp at hq
  | cons x H ih =>
    intro q hq
    cases q with
    | nil => simp at hq
    | cons y q =>
      show (if y = s then x :: md_ro s (H ++ N) (q ++ q') else md_ro s (H ++ N) (q ++ q')) = (if y = s then x :: md_ro s H q else md_ro s H q) ++ _
      rw [ih (by simpa using hq)]
      split <;> rfl
theorem md_rw_app {μ : am_M} {s d : Int} {H N : List Int} (hs : ∀ z ∈ H, μ 37 z ≤ 2) (d0 : 0 ≤ d) (d1 : d < 64) (h6 : md_ei μ (H ++ N) ≤ 6) : ∃ q, md_rw μ s d (H ++ N) = md_rw μ s (dl_up d (md_ei μ N)) H ++ q := by
  have hN := md_ei_b (μ := μ) (l := N)
  rw [md_ei_app] at h6
  refine ⟨md_ro s N (md_sds μ d (md_ei μ N) N), ?_⟩
  unfold md_rw
  rw [md_ei_app, md_sds_app d0 d1 hN.1 hs rfl h6, md_ro_app md_sds_len]
theorem dl_can_pre {μ : am_M} (hB : Bk μ) {a b d : Int} {H N : List Int} (hv : ∀ k ∈ H, 0 ≤ k ∧ k < μ 32 8) (d0 : 0 ≤ d) (d1 : d < 64) (h6 : md_ei μ (H ++ N) ≤ 6) (h : dl_can μ a b (H ++ N) d) : dl_can μ a b H (dl_up d (md_ei μ N)) := by
  have hs : ∀ z ∈ H, μ 37 z ≤ 2 := fun z hz => (hB.2.2.2.2.2.2.2.2 z (hv z hz).1 (hv z hz).2).2.2.2.1.2
  obtain ⟨q0, h0⟩ := md_rw_app (s := 0) (N := N) hs d0 d1 h6
  obtain ⟨q1, h1⟩ := md_rw_app (s := 1) (N := N) hs d0 d1 h6
  obtain ⟨k0, k1⟩ := h
  rw [h0] at k0
  rw [h1] at k1
  exact ⟨mr_can_pre hB (fun k hk => hv k (md_ro_mem hk)) k0, mr_can_pre hB (fun k hk => hv k (md_ro_mem hk)) k1⟩
theorem dl_can_be {μ μ1 : am_M} (hb : BE μ μ1) (a b : Int) (H : List Int) (d : Int) : dl_can μ1 a b H d = dl_can μ a b H d := by
  unfold dl_can
  rw [md_rw_tr hb, md_rw_tr hb, mr_can_be hb, mr_can_be hb]
theorem Ph.tr {n : Nat} {μ μ1 : am_M} {A H B : List Int} (hb : BE μ μ1) (h16 : ∀ j, μ1 16 j = μ 16 j) (h15 : μ1 15 1 = μ 15 1) (h2 : μ1 17 2 = μ 17 2) (h3 : μ1 17 3 = μ 17 3) (h5 : μ1 17 5 = μ 17 5) (hP : Ph n μ A H B) : Ph n μ1 A H B := by
  obtain ⟨p1, p2, p3, p4, p5, p6, p7⟩ := hP
  exact ⟨p1.to h16, h15.trans p2, p3, fun k hk => by rw [hb.1 8 (by decide) (by decide)]; exact p4 k hk, h2.trans p5, h3.trans p6, by rw [h5, md_ei_tr hb]; exact p7⟩
def Sfd (a j : Int) : Prop := Sdl a j ∨ (a = 17 ∧ j = 6)
theorem Sfd_Sk : ∀ a j, Sfd a j → Sk a j := fun a j h => h.elim (Sdl_Sk a j) (fun z => by unfold Sk; omega)
theorem pX5_findDealing (n : Nat) (μ : am_M) (a b fd : Int) (A H N B : List Int) (hl0 : Lay n μ) (hB : Bk μ) (hC : Cb n μ) (hP : Ph n μ A (H ++ N) B) (ha : μ 18 11 = a ∧ 0 ≤ a ∧ a ≤ 380) (hb : μ 25 11 = b ∧ 0 ≤ b ∧ b ≤ 380) (hfd : μ 17 6 = fd) (hF : FDl μ a b H fd) (he6 : md_ei μ H ≤ 6) : AC 45 [(2, 17), (0, md_ei μ N)] n μ (PI n (fun x μ' => Of Sfd μ μ' ∧ ((x = 1 ∧ md_ei μ (H ++ N) ≤ 6 ∧ FDl μ a b (H ++ N) (μ' 17 6)) ∨ (x = 0 ∧ μ' 17 6 = fd ∧ ¬ (md_ei μ (H ++ N) ≤ 6 ∧ ∃ d, 0 ≤ d ∧ d < am_shl (md_ei μ (H ++ N)) ∧ dl_can μ a b (H ++ N) d))))) := by
  obtain ⟨p1, p2, p3, p4, p5, p6, p7⟩ := id hP
  have hN := md_ei_b (μ := μ) (l := N)
  have hH := md_ei_b (μ := μ) (l := H)
  have hHN := md_ei_b (μ := μ) (l := H ++ N)
  have hei : md_ei μ (H ++ N) = md_ei μ H + md_ei μ N := md_ei_app
  have hvH : ∀ k ∈ H ++ N, 0 ≤ k ∧ k < μ 32 8 := fun k hk => p4 k (List.mem_append_left _ (List.mem_append_right _ hk))
  have hl := hl0
  refine AC.of rfl ?_
  refine aw_aload_n (q := 1) mX5_findDealing dX5_findDealing_0 rfl rfl ?_
  refine aw_get (t := 0) (ji := 5) (q := 4) mX5_findDealing dX5_findDealing_1 rfl f5_37 rfl kd_17 rfl p7 ?_
  refine aw_bipush (q := 6) mX5_findDealing dX5_findDealing_4 rfl rfl ?_
  refine aw_icmp_le (tgt := 11) (q := 9) mX5_findDealing dX5_findDealing_6 rfl (by decide) (fun c_6 => ?_) (fun c_6 => ?_)
  · have h6 : md_ei μ (H ++ N) ≤ 6 := c_6
    have hsb := am_shl_b hHN.1 h6
    have hsbH := am_shl_b hH.1 he6
    obtain ⟨f1, f2, f3, f4⟩ := id hF
    have hshx : (Int32.ofInt fd <<< (Int32.ofInt (md_ei μ N) &&& 31)).toInt = fd * 2 ^ (md_ei μ N).toNat := shx_f' f1 (by omega) hN.1 (by omega)
    have hpow : (0 : Int) < 2 ^ (md_ei μ N).toNat := Int.pow_pos (by decide)
    have hd0 : 0 ≤ fd * 2 ^ (md_ei μ N).toNat := Int.mul_nonneg f1 (by omega)
    have hsum : am_shl (md_ei μ (H ++ N)) = am_shl (md_ei μ H) * 2 ^ (md_ei μ N).toNat := by
      rw [hsb.1, hsbH.1, hei, ← Int.pow_add]
      congr 1
      omega
    have hdle : fd * 2 ^ (md_ei μ N).toNat ≤ am_shl (md_ei μ (H ++ N)) := by
      rw [hsum]
      exact Int.mul_le_mul_of_nonneg_right (by omega) (by omega)
    -- dealings ahead were refused already
    have hahead : ∀ d, 0 ≤ d → d < fd * 2 ^ (md_ei μ N).toNat → ¬ dl_can μ a b (H ++ N) d := by
      intro d k0 k1 hc
      have hd64 : d < 64 := by omega
      have h1 := dl_can_pre hB (fun k hk => hvH k (List.mem_append_left _ hk)) k0 hd64 h6 hc
      refine f4 (dl_up d (md_ei μ N)) (by unfold dl_up; exact Int.natCast_nonneg _) ?_ h1
      unfold dl_up
      have h2 : d.toNat / 2 ^ (md_ei μ N).toNat < fd.toNat := by
        rw [Nat.div_lt_iff_lt_mul (Nat.pow_pos (by decide))]
        have h3 : ((fd.toNat * 2 ^ (md_ei μ N).toNat : Nat) : Int) = fd * 2 ^ (md_ei μ N).toNat := by
          rw [Int.natCast_mul, Int.natCast_pow, show ((fd.toNat : Nat) : Int) = fd by omega]
          rfl
        omega
      omega
    have F : ∀ (m : Nat) (d : Int) (μ1 : am_M), 0 ≤ d → d + m = am_shl (md_ei μ (H ++ N)) → (∀ d', 0 ≤ d' → d' < d → ¬ dl_can μ a b (H ++ N) d') → Of Sdl μ μ1 → AW none 45 18 [(2, 17), (0, md_ei μ N), (0, d)] [] n μ1 (PI n (fun x μ' => Of Sfd μ μ' ∧ ((x = 1 ∧ md_ei μ (H ++ N) ≤ 6 ∧ FDl μ a b (H ++ N) (μ' 17 6)) ∨ (x = 0 ∧ μ' 17 6 = fd ∧ ¬ (md_ei μ (H ++ N) ≤ 6 ∧ ∃ d, 0 ≤ d ∧ d < am_shl (md_ei μ (H ++ N)) ∧ dl_can μ a b (H ++ N) d))))) := by
      intro m
      induction m with
      | zero =>
        intro d μ1 k0 k1 hno hO
        have hl : Lay n μ1 := hl0.ofS hO Sdl_Sk
        have hdl := pX5_dealings n μ1 hl
        rw [(hO 17 5 (by unfold Sdl Sd; omega)).trans p7] at hdl
        refine aw_iload_n (q := 19) mX5_findDealing dX5_findDealing_18 rfl rfl ?_
        refine aw_aload_n (q := 20) mX5_findDealing dX5_findDealing_19 rfl rfl ?_
        refine aw_v0 (ci := 5) (q := 23) mX5_findDealing dX5_findDealing_20 rfl l5_64 k45_46 rfl kd_17 rfl rfl rfl (hdl) (kpure ?_)
        refine aw_icmp_ge (tgt := 64) (q := 26) mX5_findDealing dX5_findDealing_23 rfl (by decide) (fun c_23 => ?_) (fun c_23 => ?_)
        · refine aw_iconst (q := 65) mX5_findDealing dX5_findDealing_64 rfl rfl ?_
          refine aw_zret mX5_findDealing dX5_findDealing_65 (by first | exact Or.inl rfl | exact Or.inr rfl | assumption | omega) ?_
          exact ⟨0, rfl, rfl, hO.mono (fun a j z => Or.inl z), Or.inr ⟨rfl, (hO 17 6 (by unfold Sdl Sd; omega)).trans hfd, fun z => by
            obtain ⟨-, d', q0, q1, q2⟩ := z
            exact hno d' q0 (by omega) q2⟩⟩
        · exact absurd c_23 (by omega)
      | succ m ih =>
        intro d μ1 k0 k1 hno hO
        have hl : Lay n μ1 := hl0.ofS hO Sdl_Sk
        have hBE := hO.kbe Sdl_Sk
        have hdl := pX5_dealings n μ1 hl
        rw [(hO 17 5 (by unfold Sdl Sd; omega)).trans p7] at hdl
        have ea : μ1 18 11 = a := (hO 18 11 (by unfold Sdl Sd; omega)).trans ha.1
        have eb : μ1 25 11 = b := (hO 25 11 (by unfold Sdl Sd; omega)).trans hb.1
        have hP1 : Ph n μ1 A (H ++ N) B := hP.tr hBE (fun j => hO 16 j (by unfold Sdl Sd; omega)) (hO 15 1 (by unfold Sdl Sd; omega)) (hO 17 2 (by unfold Sdl Sd; omega)) (hO 17 3 (by unfold Sdl Sd; omega)) (hO 17 5 (by unfold Sdl Sd; omega))
        have hdeal := pX5_deal n μ1 d A (H ++ N) B hl (hB.tr hBE) (hC.k hO Sdl_Sk) hP1 (by rw [md_ei_tr hBE]; exact h6) k0 (by omega) (by rw [ea]; omega) (by rw [eb]; omega)
        rw [ea, eb, md_top0_tr hBE, md_top0_tr hBE, md_rw_tr hBE, md_rw_tr hBE] at hdeal
        have NX : ∀ μ2, Of Sdl μ μ2 → ¬ dl_can μ a b (H ++ N) d → AW none 45 58 [(2, 17), (0, md_ei μ N), (0, d)] [] n μ2 (PI n (fun x μ' => Of Sfd μ μ' ∧ ((x = 1 ∧ md_ei μ (H ++ N) ≤ 6 ∧ FDl μ a b (H ++ N) (μ' 17 6)) ∨ (x = 0 ∧ μ' 17 6 = fd ∧ ¬ (md_ei μ (H ++ N) ≤ 6 ∧ ∃ d, 0 ≤ d ∧ d < am_shl (md_ei μ (H ++ N)) ∧ dl_can μ a b (H ++ N) d))))) := by
          intro μ2 hO2 hnot
          refine aw_iinc (q := 61) mX5_findDealing dX5_findDealing_58 rfl rfl (by decide) (by omega) (by omega) rfl ?_
          refine aw_goto (q := 18) mX5_findDealing dX5_findDealing_61 (by decide) ?_
          refine ih (d + 1) μ2 (by omega) (by omega) (fun d' q0 q1 => ?_) hO2
          by_cases hde : d' = d
          · rw [hde]; exact hnot
          · exact hno d' q0 (by omega)
        refine aw_iload_n (q := 19) mX5_findDealing dX5_findDealing_18 rfl rfl ?_
        refine aw_aload_n (q := 20) mX5_findDealing dX5_findDealing_19 rfl rfl ?_
        refine aw_v0 (ci := 5) (q := 23) mX5_findDealing dX5_findDealing_20 rfl l5_64 k45_46 rfl kd_17 rfl rfl rfl (hdl) (kpure ?_)
        refine aw_icmp_ge (tgt := 64) (q := 26) mX5_findDealing dX5_findDealing_23 rfl (by decide) (fun c_23 => ?_) (fun c_23 => ?_)
        · exact absurd c_23 (by omega)
        · refine aw_aload_n (q := 27) mX5_findDealing dX5_findDealing_26 rfl rfl ?_
          refine aw_iload_n (q := 28) mX5_findDealing dX5_findDealing_27 rfl rfl ?_
          refine aw_v1 (ci := 5) (q := 31) mX5_findDealing dX5_findDealing_28 rfl l5_68 k45_47 rfl kd_17 rfl rfl rfl (hdeal) (kvoid (fun μ2 h2 => ?_))
          obtain ⟨q1, q2, q3⟩ := h2
          have hO2 : Of Sdl μ μ2 := hO.tr q1
          have hl2 : Lay n μ2 := hl0.ofS hO2 Sdl_Sk
          have hl := hl2
          have hBE2 := hO2.kbe Sdl_Sk
          have hB2 := hB.tr hBE2
          have hC2 := hC.k hO2 Sdl_Sk
          have hv0 : ∀ s, ∀ k ∈ md_rw μ s d (H ++ N), 0 ≤ k ∧ k < μ2 32 8 := fun s k hk => by rw [hBE2.1 8 (by decide) (by decide)]; exact hvH k (md_ro_mem hk)
          have hf0 := pX2_fits n μ2 18 _ _ (Or.inl rfl) hl2 (hC2.bc hB2) q2
          have hf1 := pX2_fits n μ2 25 _ _ (Or.inr rfl) hl2 (hC2.bc hB2) q3
          have t0 := ed_can_mr hB2 hC2 (rest := a) (hv0 0)
          have t1 := ed_can_mr hB2 hC2 (rest := b) (hv0 1)
          rw [md_top0_tr hBE2, mr_can_be hBE2] at t0 t1
          refine aw_aload_n (q := 32) mX5_findDealing dX5_findDealing_31 rfl rfl ?_
          refine aw_get (t := 2) (ji := 0) (q := 35) mX5_findDealing dX5_findDealing_32 rfl f5_20 rfl kd_17 rfl (ly_17_0 hl) ?_
          refine aw_v0 (ci := 2) (q := 38) mX5_findDealing dX5_findDealing_35 rfl l5_72 k45_25 rfl kd_18 rfl rfl rfl (hf0) (kint (fun y μ3 hy => ?_))
          obtain ⟨hm3, hy⟩ := hy
          subst hm3
          refine aw_if_eq (tgt := 58) (q := 41) mX5_findDealing dX5_findDealing_38 rfl (by decide) (fun c_38 => ?_) (fun c_38 => ?_)
          · refine NX _ hO2 (fun z => ?_)
            rcases hy with ⟨y1, -⟩ | ⟨-, y2⟩
            · omega
            · exact y2 (t0.mpr z.1)
          · have hL : mr_can μ a (md_rw μ 0 d (H ++ N)) := by
              rcases hy with ⟨-, y2⟩ | ⟨y1, -⟩
              · exact t0.mp y2
              · exact absurd y1 c_38
            refine aw_aload_n (q := 42) mX5_findDealing dX5_findDealing_41 rfl rfl ?_
            refine aw_get (t := 2) (ji := 1) (q := 45) mX5_findDealing dX5_findDealing_42 rfl f5_24 rfl kd_17 rfl (ly_17_1 hl) ?_
            refine aw_v0 (ci := 2) (q := 48) mX5_findDealing dX5_findDealing_45 rfl l5_72 k45_25 rfl kd_25 rfl rfl rfl (hf1) (kint (fun y' μ4 hy' => ?_))
            obtain ⟨hm4, hy'⟩ := hy'
            subst hm4
            refine aw_if_eq (tgt := 58) (q := 51) mX5_findDealing dX5_findDealing_48 rfl (by decide) (fun c_48 => ?_) (fun c_48 => ?_)
            · refine NX _ hO2 (fun z => ?_)
              rcases hy' with ⟨y1, -⟩ | ⟨-, y2⟩
              · omega
              · exact y2 (t1.mpr z.2)
            · have hR : mr_can μ b (md_rw μ 1 d (H ++ N)) := by
                rcases hy' with ⟨-, y2⟩ | ⟨y1, -⟩
                · exact t1.mp y2
                · exact absurd y1 c_48
              refine aw_aload_n (q := 52) mX5_findDealing dX5_findDealing_51 rfl rfl ?_
              refine aw_iload_n (q := 53) mX5_findDealing dX5_findDealing_52 rfl rfl ?_
              refine aw_put (t := 0) (ji := 6) (q := 56) mX5_findDealing dX5_findDealing_53 rfl f5_40 rfl kd_17 rfl (Or.inl rfl) (Or.inl (by decide)) (fun μ_53 e_53 => ?_)
              have hl : Lay n μ_53 := by rw [e_53]; exact Lay.setF lf_17_6 hl
              refine aw_iconst (q := 57) mX5_findDealing dX5_findDealing_56 rfl rfl ?_
              refine aw_zret mX5_findDealing dX5_findDealing_57 (by first | exact Or.inl rfl | exact Or.inr rfl | assumption | omega) ?_
              refine ⟨1, rfl, rfl, by rw [e_53]; exact (hO2.mono (fun a j z => Or.inl z)).set (Or.inr ⟨rfl, rfl⟩), Or.inl ⟨rfl, h6, ?_⟩⟩
              rw [e_53, am_ss]
              exact ⟨k0, by omega, ⟨hL, hR⟩, hno⟩
    refine aw_aload_n (q := 12) mX5_findDealing dX5_findDealing_11 rfl rfl ?_
    refine aw_get (t := 0) (ji := 6) (q := 15) mX5_findDealing dX5_findDealing_12 rfl f5_40 rfl kd_17 rfl hfd ?_
    refine aw_iload_n (q := 16) mX5_findDealing dX5_findDealing_15 rfl rfl ?_
    refine aw_ishl (q := 17) mX5_findDealing dX5_findDealing_16 rfl hshx ?_
    refine aw_istore_n (q := 18) mX5_findDealing dX5_findDealing_17 rfl (by decide) rfl ?_
    exact F (am_shl (md_ei μ (H ++ N)) - fd * 2 ^ (md_ei μ N).toNat).toNat _ μ hd0 (by omega) hahead Of.rf
  · refine aw_iconst (q := 10) mX5_findDealing dX5_findDealing_9 rfl rfl ?_
    refine aw_zret mX5_findDealing dX5_findDealing_10 (by first | exact Or.inl rfl | exact Or.inr rfl | assumption | omega) ?_
    exact ⟨0, rfl, rfl, Of.rf, Or.inr ⟨rfl, hfd, fun z => c_6 z.1⟩⟩
def Stn (a j : Int) : Prop := Sdl a j ∨ (a = 17 ∧ (j = 3 ∨ j = 5 ∨ j = 6))
theorem Stn_Sk : ∀ a j, Stn a j → Sk a j := fun a j h => h.elim (Sdl_Sk a j) (fun z => by unfold Sk; omega)
theorem FDl_be {μ μ1 : am_M} (hb : BE μ μ1) (a b : Int) (H : List Int) (fd : Int) : FDl μ1 a b H fd = FDl μ a b H fd := by
  unfold FDl
  simp only [dl_can_be hb, md_ei_tr hb]
theorem pX5_takeNotesOf (n : Nat) (μ : am_M) (l a b fd : Int) (A H N B : List Int) (hl0 : Lay n μ) (hB : Bk μ) (hC : Cb n μ) (hP : Ph n μ A H (N ++ B)) (ha : μ 18 11 = a ∧ 0 ≤ a ∧ a ≤ 380) (hb : μ 25 11 = b ∧ 0 ≤ b ∧ b ≤ 380) (hfd : μ 17 6 = fd) (hF : FDl μ a b H fd) (he6 : md_ei μ H ≤ 6) (hN : ∀ k ∈ N, μ 34 k = l) (hBl : ∀ k ∈ B, μ 34 k ≠ l) : AC 44 [(2, 17), (0, l)] n μ (PI n (fun x μ' => Of Stn μ μ' ∧ ((x = 1 ∧ Ph n μ' A (H ++ N) B ∧ md_ei μ (H ++ N) ≤ 6 ∧ FDl μ a b (H ++ N) (μ' 17 6)) ∨ (x = 0 ∧ Ph n μ' A H (N ++ B) ∧ μ' 17 6 = fd ∧ ¬ (md_ei μ (H ++ N) ≤ 6 ∧ ∃ d, 0 ≤ d ∧ d < am_shl (md_ei μ (H ++ N)) ∧ dl_can μ a b (H ++ N) d))))) := by
  obtain ⟨p1, p2, p3, p4, p5, p6, p7⟩ := id hP
  obtain ⟨cn, ⟨c2, c3, c4, c5, c6, c7, c8⟩, ch, ck⟩ := id hC
  have hHb := md_ei_b (μ := μ) (l := H)
  obtain ⟨PP, hPP⟩ : ∃ P : Option am_V → Nat → am_M → Prop, P = PI n (fun x μ' => Of Stn μ μ' ∧ ((x = 1 ∧ Ph n μ' A (H ++ N) B ∧ md_ei μ (H ++ N) ≤ 6 ∧ FDl μ a b (H ++ N) (μ' 17 6)) ∨ (x = 0 ∧ Ph n μ' A H (N ++ B) ∧ μ' 17 6 = fd ∧ ¬ (md_ei μ (H ++ N) ≤ 6 ∧ ∃ d, 0 ≤ d ∧ d < am_shl (md_ei μ (H ++ N)) ∧ dl_can μ a b (H ++ N) d)))) := ⟨_, rfl⟩
  rw [← hPP]
  have hlen : (A ++ H ++ (N ++ B)).length = A.length + H.length + N.length + B.length := by simp; omega
  have hAH : (A ++ H).length = A.length + H.length := List.length_append
  have hve : ∀ k ∈ N ++ B, 0 ≤ k ∧ k < μ 32 8 := fun k hk => p4 k (List.mem_append_right _ hk)
  -- at the end of the line's notes
  have E : ∀ μ1, Of Stn μ μ1 → Ph n μ1 A (H ++ N) B → μ1 17 6 = fd → AW none 44 85 [(2, 17), (0, l), (0, ((A ++ H).length : Int)), (0, md_ei μ H)] [] n μ1 PP := by
    intro μ1 hO hP1 h6
    have hl : Lay n μ1 := hl0.ofS hO Stn_Sk
    have hBE := hO.kbe Stn_Sk
    obtain ⟨s1, s2, s3, s4, s5, s6, s7⟩ := id hP1
    have hsl : (A ++ (H ++ N)).length = A.length + H.length + N.length := by simp; omega
    rw [md_ei_tr hBE] at s7
    have hei : md_ei μ (H ++ N) - md_ei μ H = md_ei μ1 N := by rw [md_ei_app, md_ei_tr hBE]; omega
    have heb := md_ei_b (μ := μ) (l := H ++ N)
    have hHN : (H ++ N).length ≤ 24 := by simp; omega
    have ea : μ1 18 11 = a := (hO 18 11 (by unfold Stn Sdl Sd; omega)).trans ha.1
    have eb : μ1 25 11 = b := (hO 25 11 (by unfold Stn Sdl Sd; omega)).trans hb.1
    refine aw_aload_n (q := 86) mX5_takeNotesOf dX5_takeNotesOf_85 rfl rfl ?_
    refine aw_get (t := 0) (ji := 3) (q := 89) mX5_takeNotesOf dX5_takeNotesOf_86 rfl f5_31 rfl kd_17 rfl s6 ?_
    refine aw_iload_n (q := 90) mX5_takeNotesOf dX5_takeNotesOf_89 rfl rfl ?_
    refine aw_icmp_eq (tgt := 106) (q := 93) mX5_takeNotesOf dX5_takeNotesOf_90 rfl (by decide) (fun c_90 => ?_) (fun c_90 => ?_)
    · refine aw_iconst (q := 107) mX5_takeNotesOf dX5_takeNotesOf_106 rfl rfl ?_
      refine aw_zret mX5_takeNotesOf dX5_takeNotesOf_107 (by first | exact Or.inl rfl | exact Or.inr rfl | assumption | omega) ?_
      have hN0 : N = [] := List.length_eq_zero_iff.mp (by omega)
      rw [hPP]
      refine ⟨1, rfl, rfl, hO, Or.inl ⟨rfl, hP1, ?_, ?_⟩⟩
      · rw [hN0, List.append_nil]; exact he6
      · rw [hN0, List.append_nil, h6]; exact hF
    · have hfind := pX5_findDealing n μ1 a b fd A H N B hl (hB.tr hBE) (hC.k hO Stn_Sk) hP1 ⟨ea, ha.2⟩ ⟨eb, hb.2⟩ h6 (by rw [FDl_be hBE]; exact hF) (by rw [md_ei_tr hBE]; exact he6)
      rw [← hei] at hfind
      refine aw_aload_n (q := 94) mX5_takeNotesOf dX5_takeNotesOf_93 rfl rfl ?_
      refine aw_aload_n (q := 95) mX5_takeNotesOf dX5_takeNotesOf_94 rfl rfl ?_
      refine aw_get (t := 0) (ji := 5) (q := 98) mX5_takeNotesOf dX5_takeNotesOf_95 rfl f5_37 rfl kd_17 rfl s7 ?_
      refine aw_iload_n (q := 99) mX5_takeNotesOf dX5_takeNotesOf_98 rfl rfl ?_
      refine aw_isub (q := 100) mX5_takeNotesOf dX5_takeNotesOf_99 rfl (by omega) (by omega) ?_
      refine aw_v1 (ci := 5) (q := 103) mX5_takeNotesOf dX5_takeNotesOf_100 rfl l5_60 k44_45 rfl kd_17 rfl rfl rfl (hfind) (kint (fun y μ2 hy => ?_))
      obtain ⟨q1, hy⟩ := hy
      simp only [md_ei_tr hBE, FDl_be hBE, dl_can_be hBE] at hy
      have hO2 : Of Stn μ μ2 := hO.tr (q1.mono (fun a j z => z.elim Or.inl (fun w => Or.inr (by omega))))
      have hl : Lay n μ2 := hl0.ofS hO2 Stn_Sk
      have hBE2 := hO2.kbe Stn_Sk
      refine aw_if_eq (tgt := 108) (q := 106) mX5_takeNotesOf dX5_takeNotesOf_103 rfl (by decide) (fun c_103 => ?_) (fun c_103 => ?_)
      · rcases hy with ⟨y1, -⟩ | ⟨-, y2, y3⟩
        · omega
        · refine aw_aload_n (q := 109) mX5_takeNotesOf dX5_takeNotesOf_108 rfl rfl ?_
          refine aw_iload_n (q := 110) mX5_takeNotesOf dX5_takeNotesOf_109 rfl rfl ?_
          refine aw_put (t := 0) (ji := 3) (q := 113) mX5_takeNotesOf dX5_takeNotesOf_110 rfl f5_31 rfl kd_17 rfl (Or.inl rfl) (Or.inl (by decide)) (fun μ_110 e_110 => ?_)
          have hl : Lay n μ_110 := by rw [e_110]; exact Lay.setF lf_17_3 hl
          refine aw_aload_n (q := 114) mX5_takeNotesOf dX5_takeNotesOf_113 rfl rfl ?_
          refine aw_iload_n (q := 115) mX5_takeNotesOf dX5_takeNotesOf_114 rfl rfl ?_
          refine aw_put (t := 0) (ji := 5) (q := 118) mX5_takeNotesOf dX5_takeNotesOf_115 rfl f5_37 rfl kd_17 rfl (Or.inl rfl) (Or.inl (by decide)) (fun μ_115 e_115 => ?_)
          have hl : Lay n μ_115 := by rw [e_115]; exact Lay.setF lf_17_5 hl
          refine aw_iconst (q := 119) mX5_takeNotesOf dX5_takeNotesOf_118 rfl rfl ?_
          refine aw_zret mX5_takeNotesOf dX5_takeNotesOf_119 (by first | exact Or.inl rfl | exact Or.inr rfl | assumption | omega) ?_
          have hO3 : Of Stn μ μ_115 := by rw [e_115, e_110]; exact (hO2.set (Or.inr (by omega))).set (Or.inr (by omega))
          rw [hPP]
          refine ⟨0, rfl, rfl, hO3, Or.inr ⟨rfl, ?_, ?_, y3⟩⟩
          · exact ⟨p1.to (fun j => hO3 16 j (by unfold Stn Sdl Sd; omega)), (hO3 15 1 (by unfold Stn Sdl Sd; omega)).trans p2, p3, fun k hk => by rw [(hO3.kbe Stn_Sk).1 8 (by decide) (by decide)]; exact p4 k hk, (hO3 17 2 (by unfold Stn Sdl Sd; omega)).trans p5, by rw [e_115, am_sn (Or.inr (by decide)), e_110, am_ss], by rw [md_ei_tr (hO3.kbe Stn_Sk), e_115, am_ss]⟩
          · rw [e_115, am_sn (Or.inr (by decide)), e_110, am_sn (Or.inr (by decide))]; exact y2
      · rcases hy with ⟨-, y2, y3⟩ | ⟨y1, -⟩
        · refine aw_iconst (q := 107) mX5_takeNotesOf dX5_takeNotesOf_106 rfl rfl ?_
          refine aw_zret mX5_takeNotesOf dX5_takeNotesOf_107 (by first | exact Or.inl rfl | exact Or.inr rfl | assumption | omega) ?_
          rw [hPP]
          refine ⟨1, rfl, rfl, hO2, Or.inl ⟨rfl, ?_, y2, y3⟩⟩
          exact hP1.tr (q1.kbe Sfd_Sk) (fun j => q1 16 j (by unfold Sfd Sdl Sd; omega)) (q1 15 1 (by unfold Sfd Sdl Sd; omega)) (q1 17 2 (by unfold Sfd Sdl Sd; omega)) (q1 17 3 (by unfold Sfd Sdl Sd; omega)) (q1 17 5 (by unfold Sfd Sdl Sd; omega))
        · exact absurd y1 c_103
  have F : ∀ (N2 N1 : List Int) (μ1 : am_M), N = N1 ++ N2 → Of Stn μ μ1 → Ph n μ1 A (H ++ N1) (N2 ++ B) → μ1 17 6 = fd → AW none 44 10 [(2, 17), (0, l), (0, ((A ++ H).length : Int)), (0, md_ei μ H)] [] n μ1 PP := by
    intro N2
    induction N2 with
    | nil =>
      intro N1 μ1 hN12 hO hP1 h6
      have hl : Lay n μ1 := hl0.ofS hO Stn_Sk
      have hBE := hO.kbe Stn_Sk
      obtain ⟨s1, s2, s3, s4, s5, s6, s7⟩ := id hP1
      have hN1 : N1 = N := by rw [hN12]; simp
      rw [hN1] at hP1 s1 s2 s3 s6
      have hEE := E μ1 hO hP1 h6
      have hAHN : (A ++ (H ++ N)).length = A.length + H.length + N.length := by simp; omega
      have htot : (A ++ (H ++ N) ++ ([] ++ B)).length = A.length + H.length + N.length + B.length := by simp; omega
      refine aw_aload_n (q := 11) mX5_takeNotesOf dX5_takeNotesOf_10 rfl rfl ?_
      refine aw_get (t := 0) (ji := 3) (q := 14) mX5_takeNotesOf dX5_takeNotesOf_11 rfl f5_31 rfl kd_17 rfl s6 ?_
      refine aw_aload_n (q := 15) mX5_takeNotesOf dX5_takeNotesOf_14 rfl rfl ?_
      refine aw_get (t := 2) (ji := 4) (q := 18) mX5_takeNotesOf dX5_takeNotesOf_15 rfl f5_9 rfl kd_17 rfl (ly_17_4 hl) ?_
      refine aw_get (t := 0) (ji := 1) (q := 21) mX5_takeNotesOf dX5_takeNotesOf_18 rfl f5_43 rfl kd_15 rfl s2 ?_
      refine aw_icmp_ge (tgt := 85) (q := 24) mX5_takeNotesOf dX5_takeNotesOf_21 rfl (by decide) (fun c_21 => ?_) (fun c_21 => ?_)
      · exact hEE
      · cases B with
        | nil =>
          have h0 : ([] : List Int).length = 0 := rfl
          exact absurd c_21 (by omega)
        | cons x B =>
          obtain ⟨x0, x1⟩ := hve x (by simp)
          have hxr : Nr n (nf x) := nf_r hC x0 x1
          obtain ⟨-, m⟩ := ck x x0 x1
          obtain ⟨r, hr⟩ : ∃ r, r = nf x := ⟨_, rfl⟩
          rw [← hr] at hxr
          have hk_r := hxr.k
          have hr66 := hxr.1
          have er : μ1 16 ((A ++ (H ++ N)).length : Int) = r := by
            rw [show A ++ (H ++ N) ++ ([] ++ x :: B) = (A ++ (H ++ N)) ++ x :: B by simp, List.map_append, List.map_cons] at s1
            have := Ar.mid s1
            rw [List.length_map] at this
            rw [this, hr]
          have e6 : μ1 r 6 = μ 34 x := (hO r 6 (by unfold Stn Sdl Sd; omega)).trans (by rw [hr]; exact m.2.2.2.2.2.1)
          refine aw_aload_n (q := 25) mX5_takeNotesOf dX5_takeNotesOf_24 rfl rfl ?_
          refine aw_get (t := 2) (ji := 4) (q := 28) mX5_takeNotesOf dX5_takeNotesOf_25 rfl f5_9 rfl kd_17 rfl (ly_17_4 hl) ?_
          refine aw_get (t := 2) (ji := 0) (q := 31) mX5_takeNotesOf dX5_takeNotesOf_28 rfl f5_48 rfl kd_15 rfl (ly_15_0 hl) ?_
          refine aw_aload_n (q := 32) mX5_takeNotesOf dX5_takeNotesOf_31 rfl rfl ?_
          refine aw_get (t := 0) (ji := 3) (q := 35) mX5_takeNotesOf dX5_takeNotesOf_32 rfl f5_31 rfl kd_17 rfl s6 ?_
          refine aw_aald (q := 36) mX5_takeNotesOf dX5_takeNotesOf_35 rfl kd_16 (by omega) (by omega) er ?_
          refine aw_get (t := 0) (ji := 6) (q := 39) mX5_takeNotesOf dX5_takeNotesOf_36 rfl f5_52 rfl hk_r rfl e6 ?_
          refine aw_iload_n (q := 40) mX5_takeNotesOf dX5_takeNotesOf_39 rfl rfl ?_
          refine aw_icmp_ne (tgt := 85) (q := 43) mX5_takeNotesOf dX5_takeNotesOf_40 rfl (by decide) (fun c_40 => ?_) (fun c_40 => ?_)
          · exact hEE
          · exact absurd (Decidable.not_not.mp c_40) (hBl x List.mem_cons_self)
    | cons x N2 ih =>
      intro N1 μ1 hN12 hO hP1 h6
      have hl : Lay n μ1 := hl0.ofS hO Stn_Sk
      have hBE := hO.kbe Stn_Sk
      obtain ⟨s1, s2, s3, s4, s5, s6, s7⟩ := id hP1
      rw [md_ei_tr hBE] at s7
      have hNl : N.length = N1.length + N2.length + 1 := by rw [hN12]; simp; omega
      have hAHN : (A ++ (H ++ N1)).length = A.length + H.length + N1.length := by simp; omega
      have htot : (A ++ (H ++ N1) ++ (x :: N2 ++ B)).length = A.length + H.length + N.length + B.length := by simp; omega
      have hxN : x ∈ N := by rw [hN12]; simp
      obtain ⟨x0, x1⟩ := hve x (List.mem_append_left _ hxN)
      have hxr : Nr n (nf x) := nf_r hC x0 x1
      obtain ⟨-, m⟩ := ck x x0 x1
      obtain ⟨r, hr⟩ : ∃ r, r = nf x := ⟨_, rfl⟩
      rw [← hr] at hxr
      have hk_r := hxr.k
      have hr66 := hxr.1
      have er : μ1 16 ((A ++ (H ++ N1)).length : Int) = r := by
        have h9 := s1
        rw [show A ++ (H ++ N1) ++ (x :: N2 ++ B) = (A ++ (H ++ N1)) ++ x :: (N2 ++ B) by simp, List.map_append, List.map_cons] at h9
        have := Ar.mid h9
        rw [List.length_map] at this
        rw [this, hr]
      have e6 : μ1 r 6 = μ 34 x := (hO r 6 (by unfold Stn Sdl Sd; omega)).trans (by rw [hr]; exact m.2.2.2.2.2.1)
      have e2 : μ1 r 2 = μ 37 x := (hO r 2 (by unfold Stn Sdl Sd; omega)).trans (by rw [hr]; exact m.2.2.1)
      have heb := md_ei_b (μ := μ) (l := H ++ N1)
      have hHN1 : (H ++ N1).length ≤ 24 := by simp; omega
      have hei2 : md_ei μ (H ++ (N1 ++ [x])) = md_ei μ (H ++ N1) + (if μ 37 x = 2 then 1 else 0) := by rw [← List.append_assoc, md_ei_app]; simp [md_ei]
      have K : ∀ μ2, Of Stn μ μ2 → (∀ j, μ2 16 j = μ1 16 j) → μ2 15 1 = μ1 15 1 → μ2 17 2 = μ1 17 2 → μ2 17 3 = μ1 17 3 → μ2 17 6 = μ1 17 6 → μ2 17 5 = md_ei μ (H ++ (N1 ++ [x])) → AW none 44 72 [(2, 17), (0, l), (0, ((A ++ H).length : Int)), (0, md_ei μ H)] [] n μ2 PP := by
        intro μ2 hO2 g16 g15 g2 g3 g6 g5
        have hl : Lay n μ2 := hl0.ofS hO2 Stn_Sk
        refine aw_aload_n (q := 73) mX5_takeNotesOf dX5_takeNotesOf_72 rfl rfl ?_
        refine aw_dupr (q := 74) mX5_takeNotesOf dX5_takeNotesOf_73 rfl ?_
        refine aw_get (t := 0) (ji := 3) (q := 77) mX5_takeNotesOf dX5_takeNotesOf_74 rfl f5_31 rfl kd_17 rfl (g3.trans s6) ?_
        refine aw_iconst (q := 78) mX5_takeNotesOf dX5_takeNotesOf_77 rfl rfl ?_
        refine aw_iadd (q := 79) mX5_takeNotesOf dX5_takeNotesOf_78 rfl (by omega) (by omega) ?_
        refine aw_put (t := 0) (ji := 3) (q := 82) mX5_takeNotesOf dX5_takeNotesOf_79 rfl f5_31 rfl kd_17 rfl (Or.inl rfl) (Or.inl (by decide)) (fun μ_79 e_79 => ?_)
        have hl : Lay n μ_79 := by rw [e_79]; exact Lay.setF lf_17_3 hl
        refine aw_goto (q := 10) mX5_takeNotesOf dX5_takeNotesOf_82 (by decide) ?_
        have hO3 : Of Stn μ μ_79 := by rw [e_79]; exact hO2.set (Or.inr (by omega))
        have hBE3 := hO3.kbe Stn_Sk
        refine ih (N1 ++ [x]) μ_79 (by rw [hN12]; simp) hO3 ⟨?_, ?_, ?_, ?_, ?_, ?_, ?_⟩ ?_
        · rw [show A ++ (H ++ (N1 ++ [x])) ++ (N2 ++ B) = A ++ (H ++ N1) ++ (x :: N2 ++ B) by simp]
          exact s1.to (fun j => by rw [e_79, am_sn (Or.inl (by decide))]; exact g16 j)
        · rw [show A ++ (H ++ (N1 ++ [x])) ++ (N2 ++ B) = A ++ (H ++ N1) ++ (x :: N2 ++ B) by simp, e_79, am_sn (Or.inl (by decide)), g15]
          exact s2
        · rw [show A ++ (H ++ (N1 ++ [x])) ++ (N2 ++ B) = A ++ (H ++ N1) ++ (x :: N2 ++ B) by simp]
          exact s3
        · rw [show A ++ (H ++ (N1 ++ [x])) ++ (N2 ++ B) = A ++ (H ++ N1) ++ (x :: N2 ++ B) by simp, hBE3.1 8 (by decide) (by decide), ← hBE.1 8 (by decide) (by decide)]
          exact s4
        · rw [e_79, am_sn (Or.inr (by decide)), g2]; exact s5
        · rw [e_79, am_ss]; simp; omega
        · rw [md_ei_tr hBE3, e_79, am_sn (Or.inr (by decide)), g5]
        · rw [e_79, am_sn (Or.inr (by decide)), g6]; exact h6
      refine aw_aload_n (q := 11) mX5_takeNotesOf dX5_takeNotesOf_10 rfl rfl ?_
      refine aw_get (t := 0) (ji := 3) (q := 14) mX5_takeNotesOf dX5_takeNotesOf_11 rfl f5_31 rfl kd_17 rfl s6 ?_
      refine aw_aload_n (q := 15) mX5_takeNotesOf dX5_takeNotesOf_14 rfl rfl ?_
      refine aw_get (t := 2) (ji := 4) (q := 18) mX5_takeNotesOf dX5_takeNotesOf_15 rfl f5_9 rfl kd_17 rfl (ly_17_4 hl) ?_
      refine aw_get (t := 0) (ji := 1) (q := 21) mX5_takeNotesOf dX5_takeNotesOf_18 rfl f5_43 rfl kd_15 rfl s2 ?_
      refine aw_icmp_ge (tgt := 85) (q := 24) mX5_takeNotesOf dX5_takeNotesOf_21 rfl (by decide) (fun c_21 => ?_) (fun c_21 => ?_)
      · exact absurd c_21 (by omega)
      · refine aw_aload_n (q := 25) mX5_takeNotesOf dX5_takeNotesOf_24 rfl rfl ?_
        refine aw_get (t := 2) (ji := 4) (q := 28) mX5_takeNotesOf dX5_takeNotesOf_25 rfl f5_9 rfl kd_17 rfl (ly_17_4 hl) ?_
        refine aw_get (t := 2) (ji := 0) (q := 31) mX5_takeNotesOf dX5_takeNotesOf_28 rfl f5_48 rfl kd_15 rfl (ly_15_0 hl) ?_
        refine aw_aload_n (q := 32) mX5_takeNotesOf dX5_takeNotesOf_31 rfl rfl ?_
        refine aw_get (t := 0) (ji := 3) (q := 35) mX5_takeNotesOf dX5_takeNotesOf_32 rfl f5_31 rfl kd_17 rfl s6 ?_
        refine aw_aald (q := 36) mX5_takeNotesOf dX5_takeNotesOf_35 rfl kd_16 (by omega) (by omega) er ?_
        refine aw_get (t := 0) (ji := 6) (q := 39) mX5_takeNotesOf dX5_takeNotesOf_36 rfl f5_52 rfl hk_r rfl e6 ?_
        refine aw_iload_n (q := 40) mX5_takeNotesOf dX5_takeNotesOf_39 rfl rfl ?_
        refine aw_icmp_ne (tgt := 85) (q := 43) mX5_takeNotesOf dX5_takeNotesOf_40 rfl (by decide) (fun c_40 => ?_) (fun c_40 => ?_)
        · exact absurd (hN x hxN) c_40
        · refine aw_aload_n (q := 44) mX5_takeNotesOf dX5_takeNotesOf_43 rfl rfl ?_
          refine aw_get (t := 2) (ji := 4) (q := 47) mX5_takeNotesOf dX5_takeNotesOf_44 rfl f5_9 rfl kd_17 rfl (ly_17_4 hl) ?_
          refine aw_get (t := 2) (ji := 0) (q := 50) mX5_takeNotesOf dX5_takeNotesOf_47 rfl f5_48 rfl kd_15 rfl (ly_15_0 hl) ?_
          refine aw_aload_n (q := 51) mX5_takeNotesOf dX5_takeNotesOf_50 rfl rfl ?_
          refine aw_get (t := 0) (ji := 3) (q := 54) mX5_takeNotesOf dX5_takeNotesOf_51 rfl f5_31 rfl kd_17 rfl s6 ?_
          refine aw_aald (q := 55) mX5_takeNotesOf dX5_takeNotesOf_54 rfl kd_16 (by omega) (by omega) er ?_
          refine aw_get (t := 0) (ji := 2) (q := 58) mX5_takeNotesOf dX5_takeNotesOf_55 rfl f5_57 rfl hk_r rfl e2 ?_
          refine aw_iconst (q := 59) mX5_takeNotesOf dX5_takeNotesOf_58 rfl rfl ?_
          refine aw_icmp_ne (tgt := 72) (q := 62) mX5_takeNotesOf dX5_takeNotesOf_59 rfl (by decide) (fun c_59 => ?_) (fun c_59 => ?_)
          · exact K μ1 hO (fun j => rfl) rfl rfl rfl rfl (by rw [s7, hei2, if_neg c_59]; omega)
          · refine aw_aload_n (q := 63) mX5_takeNotesOf dX5_takeNotesOf_62 rfl rfl ?_
            refine aw_dupr (q := 64) mX5_takeNotesOf dX5_takeNotesOf_63 rfl ?_
            refine aw_get (t := 0) (ji := 5) (q := 67) mX5_takeNotesOf dX5_takeNotesOf_64 rfl f5_37 rfl kd_17 rfl s7 ?_
            refine aw_iconst (q := 68) mX5_takeNotesOf dX5_takeNotesOf_67 rfl rfl ?_
            refine aw_iadd (q := 69) mX5_takeNotesOf dX5_takeNotesOf_68 rfl (by omega) (by omega) ?_
            refine aw_put (t := 0) (ji := 5) (q := 72) mX5_takeNotesOf dX5_takeNotesOf_69 rfl f5_37 rfl kd_17 rfl (Or.inl rfl) (Or.inl (by decide)) (fun μ_69 e_69 => ?_)
            have hl : Lay n μ_69 := by rw [e_69]; exact Lay.setF lf_17_5 hl
            refine K μ_69 (by rw [e_69]; exact hO.set (Or.inr (by omega))) (fun j => by rw [e_69, am_sn (Or.inl (by decide))]) (by rw [e_69, am_sn (Or.inl (by decide))]) (by rw [e_69, am_sn (Or.inr (by decide))]) (by rw [e_69, am_sn (Or.inr (by decide))]) (by rw [e_69, am_sn (Or.inr (by decide))]) (by rw [e_69, am_ss, hei2, if_pos (Decidable.not_not.mp c_59)])
  have hl := hl0
  refine AC.of rfl ?_
  refine aw_aload_n (q := 1) mX5_takeNotesOf dX5_takeNotesOf_0 rfl rfl ?_
  refine aw_get (t := 0) (ji := 3) (q := 4) mX5_takeNotesOf dX5_takeNotesOf_1 rfl f5_31 rfl kd_17 rfl p6 ?_
  refine aw_istore_n (q := 5) mX5_takeNotesOf dX5_takeNotesOf_4 rfl (by decide) rfl ?_
  refine aw_aload_n (q := 6) mX5_takeNotesOf dX5_takeNotesOf_5 rfl rfl ?_
  refine aw_get (t := 0) (ji := 5) (q := 9) mX5_takeNotesOf dX5_takeNotesOf_6 rfl f5_37 rfl kd_17 rfl p7 ?_
  refine aw_istore_n (q := 10) mX5_takeNotesOf dX5_takeNotesOf_9 rfl (by decide) rfl ?_
  exact F N [] μ rfl Of.rf (by rw [List.append_nil]; exact hP) hfd

/-! from the law's entry to its loop; the claim's walk -/
theorem ini_get : ∃ μ1 μ2, ini1 = some (none, 32, μ1) ∧ ini2 μ1 = some (none, 66, μ2) ∧ ∀ q ∈ iniL, μ2 q.1 q.2.1 = q.2.2 := by
  have h := ini_true
  unfold ini_ok at h
  cases e1 : ini1 with
  | none =>
    rw [e1] at h
    cases h
  | some q1 =>
    obtain ⟨r1, n1, μ1⟩ := q1
    rw [e1] at h
    dsimp only at h
    rw [Bool.and_eq_true, Bool.and_eq_true] at h
    obtain ⟨⟨hr, hn⟩, h⟩ := h
    have hr := of_decide_eq_true hr
    have hn := of_decide_eq_true hn
    cases e2 : ini2 μ1 with
    | none =>
      rw [e2] at h
      cases h
    | some q2 =>
      obtain ⟨r2, n2, μ2⟩ := q2
      rw [e2] at h
      dsimp only at h
      rw [Bool.and_eq_true, Bool.and_eq_true] at h
      obtain ⟨⟨hr2, hn2⟩, h⟩ := h
      have hr2 := of_decide_eq_true hr2
      have hn2 := of_decide_eq_true hn2
      refine ⟨μ1, μ2, by rw [hr, hn], by rw [e2, hr2, hn2], fun q hq => of_decide_eq_true (List.all_eq_true.mp h q hq)⟩
theorem ini_J {μ : am_M} (H : ∀ q ∈ iniL, μ q.1 q.2.1 = q.2.2) : J 66 μ := by
  have G : ∀ (i : Nat) (a j x : Int), iniL[i]? = some (a, j, x) → μ a j = x := fun i a j x h => H (a, j, x) (List.mem_of_getElem? h)
  have a0 : μ 0 2 = 0 := G 0 _ _ _ rfl
  have a1 : μ 1 2 = 0 := G 1 _ _ _ rfl
  have a2 : μ 1 3 = 0 := G 2 _ _ _ rfl
  have a3 : μ 1 4 = 100 := G 3 _ _ _ rfl
  have a4 : μ 1 5 = 2 := G 4 _ _ _ rfl
  have a5 : μ 1 6 = 50 := G 5 _ _ _ rfl
  have a6 : μ 1 7 = 15 := G 6 _ _ _ rfl
  have a7 : μ 1 8 = 0 := G 7 _ _ _ rfl
  have a8 : μ 4 5 = 1 := G 8 _ _ _ rfl
  have b0 : μ 32 0 = 0 := G 9 _ _ _ rfl
  have b2 : μ 32 2 = 100 := G 10 _ _ _ rfl
  have b3 : μ 32 3 = 2 := G 11 _ _ _ rfl
  have b4 : μ 32 4 = 50 := G 12 _ _ _ rfl
  have b5 : μ 32 5 = 15 := G 13 _ _ _ rfl
  have b6 : μ 32 6 = 0 := G 14 _ _ _ rfl
  have b7 : μ 32 7 = 0 := G 15 _ _ _ rfl
  have b8 : μ 32 8 = 0 := G 16 _ _ _ rfl
  have b21 : μ 32 21 = 0 := G 17 _ _ _ rfl
  refine ⟨⟨fun q hq => H q (List.mem_append_right _ hq), fun a z0 z1 _ => by omega⟩, ⟨by omega, by omega, by omega, by omega, Or.inl b6, by omega, by omega, fun l z0 z1 => by omega, fun k z0 z1 => by omega⟩, ⟨by rw [b8]; rfl, ⟨by omega, by omega, by omega, by omega, by omega, by omega, by omega⟩, fun l z0 z1 => by omega, fun k z0 z1 => by omega⟩, fun k z0 z1 => by omega, by omega, J.unset b21, J.stale a8⟩
theorem law_run (ln : Int) (xs : Int → Int) (hln : 0 ≤ ln ∧ ln ≤ 3072) : AW (some (ln, xs)) 140 0 (am_entry 140 [(3, 0)]) [] 0 am_mem0 (fun r n' _ => r = some (0, 1) ∧ n' ≤ 114) := by
  obtain ⟨μ1, μ2, e1, e2, H⟩ := ini_get
  have hJ : J 66 μ2 := ini_J H
  unfold ini1 at e1
  unfold ini2 at e2
  have c1 : AC 49 [(2, ((0 : Nat) : Int))] (0 + 1) (am_new am_mem0 ((0 : Nat) : Int) (am_zero (0, 6))) (fun r n' μ' => r = none ∧ n' = 32 ∧ μ' = μ1) := ⟨400, none, 32, μ1, e1, rfl, rfl, rfl⟩
  have c2 : AC 87 [(2, ((32 : Nat) : Int))] (32 + 1) (am_new μ1 ((32 : Nat) : Int) (am_zero (0, 7))) (fun r n' μ' => r = none ∧ n' = 66 ∧ μ' = μ2) := ⟨400, none, 66, μ2, e2, rfl, rfl, rfl⟩
  have hE : am_entry 140 [(3, 0)] = [(3, 0), (9, 0), (9, 0), (9, 0)] := by decide +kernel
  rw [hE]
  refine aw_new (q := 3) mL_law dL_law_0 rfl nl8_7 (by decide) kd_0 (fun μ_0 e_0 => ?_)
  subst e_0
  refine aw_dupr (q := 4) mL_law dL_law_3 rfl ?_
  refine aw_i0 (ci := 6) (q := 7) mL_law dL_law_4 rfl lo8_9 l8_9 k140_49 rfl kd_0 rfl rfl rfl (c1) (fun r n1 μ' hq => ?_)
  obtain ⟨hr, hn, hm⟩ := hq
  subst hr hn hm
  refine aw_astore_n (q := 8) mL_law dL_law_7 rfl (by decide) rfl ?_
  refine aw_new (q := 11) mL_law dL_law_8 rfl nl8_10 (by decide) kd_32 (fun μ_8 e_8 => ?_)
  subst e_8
  refine aw_dupr (q := 12) mL_law dL_law_11 rfl ?_
  refine aw_i0 (ci := 7) (q := 15) mL_law dL_law_12 rfl lo8_12 l8_12 k140_87 rfl kd_32 rfl rfl rfl (c2) (fun r n1 μ'' hq => ?_)
  obtain ⟨hr, hn, hm⟩ := hq
  subst hr hn hm
  refine aw_astore_n (q := 16) mL_law dL_law_15 rfl (by decide) rfl ?_
  refine aw_iconst (q := 17) mL_law dL_law_16 rfl rfl ?_
  refine aw_istore_n (q := 18) mL_law dL_law_17 rfl (by decide) rfl ?_
  exact law_loop (some (ln, xs)) ln xs rfl hln (ln + 6).toNat 0 66 μ'' (by decide) (by omega) (by omega) hJ
theorem am_sl_114 : am_sl 114 ≤ 7302250 := by decide +kernel
theorem whole_start {p : Program} {e : Env} {s : State} {m : MethodId} {below : List Frame} {meth : Method} {c : Code} (l : Launch) {b L : Nat} {xs : Nat → Int32} (hL : L ≤ 3072) (C0 : lw_At p s m meth c b L xs) : W p l e room_1 s m #[Value.ref b] below meth c s.heap [] 0 0 (lw_Z below #[Value.ref b] s) (entryFrame m ([Value.ref b] : List Value).toArray 4) := by
  obtain ⟨f, r, n', μ', hex, hr, hn⟩ := law_run (L : Int) (fun j => (xs j.toNat).toInt) (by omega)
  rw [hr] at hex
  exact am_start l hL C0 hex (by omega) (Nat.le_trans (am_sl_mono hn) am_sl_114)

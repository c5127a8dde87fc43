/-! the class's Edge: leastCost in words of the table; choose -/
def ed_D (μ : am_M) (s T : Int) (r : List Int) : Int := rw_D (μ 1 4) (μ 1 5) (ed_its μ T r) s
theorem ed_its_ok {μ : am_M} {T : Int} (hT : 0 ≤ T ∧ T ≤ 500) : ∀ {r : List Int}, (∀ x ∈ r, Nc μ x) → Ntp μ r → ∀ it ∈ ed_its μ T r, rw_ok it ∧ 0 ≤ it.1 := by
  intro r
  induction r with
  | nil => intro _ _ it h; simp [ed_its] at h
  | cons x r ih =>
    intro hN ht it h
    rcases List.mem_cons.mp h with h | h
    · obtain ⟨n1, n2, n3, -⟩ := hN x List.mem_cons_self
      have h1 := ht x List.mem_cons_self
      rw [h]
      refine ⟨⟨?_, n2.2, n3.1, n3.2, h1.1, h1.2⟩, ?_⟩
      · show (if r.isEmpty then T else μ x 8) ≤ 600
        split <;> omega
      · show 0 ≤ (if r.isEmpty then T else μ x 8)
        split <;> omega
    · exact ih (fun y hy => hN y (List.mem_cons_of_mem _ hy)) (fun y hy => ht y (List.mem_cons_of_mem _ hy)) it h
theorem ed_its_len {μ : am_M} {T : Int} : ∀ {r : List Int}, (ed_its μ T r).length = r.length := by
  intro r
  induction r with
  | nil => rfl
  | cons x r ih => simp [ed_its, ih]
theorem ed_lk {n : Nat} {μ : am_M} {e s T : Int} {r : List Int} (hc : Bc μ) (hE : Ew n μ e s r) (htp : Ntp μ r) (hne : r ≠ []) (hT : 0 ≤ T ∧ T ≤ 500) : (ed_ok μ s T r → ed_co μ s T r = ed_D μ s T r ∧ ed_D μ s T r < rw_NV ∧ ∃ xs, rw_gr (μ 1 4) (μ 1 5) s (ed_its μ T r) xs ∧ lk_ys (μ 1 5) s (ed_its μ T r) xs [] = iso_sol (lk_all (μ 1 4) (μ 1 5) s (ed_its μ T r) []) (lk_top (lk_all (μ 1 4) (μ 1 5) s (ed_its μ T r) []))) ∧ (¬ ed_ok μ s T r → ¬ ed_D μ s T r < rw_NV) := by
  obtain ⟨w1, w2, w3, w4, w5, w6⟩ := hE
  obtain ⟨c1, c2, c3⟩ := hc
  have hok := ed_its_ok hT (fun x hx => (w5 x hx).2) htp
  have hne2 : ed_its μ T r ≠ [] := by intro h; apply hne; cases r with
    | nil => rfl
    | cons a b => cases h
  constructor
  · intro h
    exact lk_main c2.1 c1.2 w6.1 (fun i hi => (hok i hi).1) (fun i hi => (hok i hi).2) (by rw [ed_its_len]; omega) hne2 h.1 h.2
  · intro h
    exact lk_none c2.1 hne2 w6.1 (by omega) h
theorem ed_D_b {n : Nat} {μ : am_M} {e s T : Int} {r : List Int} (hc : Bc μ) (hE : Ew n μ e s r) (htp : Ntp μ r) (hT : 0 ≤ T ∧ T ≤ 500) (h : ed_D μ s T r < rw_NV) : 0 ≤ ed_D μ s T r ∧ ed_D μ s T r ≤ 192000 := by
  obtain ⟨w1, w2, w3, w4, w5, w6⟩ := hE
  have := rw_D_b hc.2.1.1 (fun i hi => (ed_its_ok hT (fun x hx => (w5 x hx).2) htp i hi).1) w6.1 (by omega) h
  rw [ed_its_len] at this
  unfold ed_D
  omega
theorem pX2_lc (n : Nat) (μ : am_M) (e s T lim : Int) (r : List Int) (he : e = 18 ∨ e = 25) (hl0 : Lay n μ) (hc : Bc μ) (hE : Ew n μ e s r) (htp : Ntp μ r) (hne : r ≠ []) (hT : 0 ≤ T ∧ T ≤ 500) (hlim : -100000000 ≤ lim ∧ lim ≤ 100000000) : AC 29 [(2, e), (0, T), (0, lim)] n μ (PI n (fun x μ' => x = min (ed_D μ s T r) lim ∧ Of (Se e) μ μ' ∧ (ed_D μ s T r < lim → ed_ok μ s T r ∧ Ar μ' (e + 4) (ed_lv (μ 1 4) (μ 1 5) s (ed_its μ T r) [])))) := by
  have hNV : rw_NV = 1000000000000 := rfl
  obtain ⟨k1, k2⟩ := ed_lk hc hE htp hne hT
  refine AW.mono (pX2_leastCost n μ e s T lim r he hl0 hc hE htp hne hT hlim) ?_
  rintro q n' μ' ⟨x, h1, h2, h3, h4⟩
  refine ⟨x, h1, h2, ?_, h3, ?_⟩
  · rcases h4 with ⟨h5, h6, h7⟩ | ⟨h5, h6⟩
    · rw [h6, (k1 h5).1]
    · have := k2 h5; omega
  · intro hlt
    rcases h4 with ⟨h5, h6, h7⟩ | ⟨h5, h6⟩
    · exact ⟨h5, h7 (by rw [(k1 h5).1]; exact hlt)⟩
    · have := k2 h5; omega
/-- what the row costs by the choice of its end -/
def ed_f (μ : am_M) (s : Int) (r : List Int) (y c : Int) : Int := if c ≤ 0 then ed_D μ s (μ y 8) r else if μ y 9 = -1 ∧ μ y 0 - μ (y + 1) (c - 1) ≤ μ 1 4 then (if ed_D μ s (μ (y + 1) (c - 1)) r < rw_NV then ed_D μ s (μ (y + 1) (c - 1)) r + μ 1 6 else rw_NV) else rw_NV
def ed_cut (μ : am_M) (y c : Int) : Int := if c ≤ 0 then 0 else μ (y + 1) (c - 1)
def Sv (e a j : Int) : Prop := Se e a j ∨ (a = e ∧ j = 12)
theorem Sv_Sk {e : Int} (he : e = 18 ∨ e = 25) : ∀ a j, Sv e a j → Sk a j := fun a j h => by unfold Sv Se at h; unfold Sk; omega
theorem ed_its_tr {μ μ1 : am_M} {T : Int} : ∀ {r : List Int}, (∀ x ∈ r, μ1 x 8 = μ x 8 ∧ μ1 x 9 = μ x 9 ∧ μ1 x 1 = μ x 1 ∧ μ1 x 11 = μ x 11) → ed_its μ1 T r = ed_its μ T r := by
  intro r
  induction r with
  | nil => intro _; rfl
  | cons x r ih =>
    intro h
    obtain ⟨h1, h2, h3, h4⟩ := h x List.mem_cons_self
    unfold ed_its ed_it
    rw [h1, h2, h3, h4, ih (fun y hy => h y (List.mem_cons_of_mem _ hy))]
/-- memory alike for the rows: also the line tops -/
def NT (μ μ1 : am_M) : Prop := NE μ μ1 ∧ ∀ a, 66 ≤ a → a % 2 = 0 → μ1 a 11 = μ a 11
theorem NT.its {n : Nat} {μ μ1 : am_M} (h : NT μ μ1) {T : Int} {r : List Int} (hr : ∀ x ∈ r, Nr n x) : ed_its μ1 T r = ed_its μ T r := ed_its_tr (fun x hx => by
  obtain ⟨h1, h2, h3⟩ := hr x hx
  exact ⟨h.1.2 x 8 h1 (by omega), h.1.2 x 9 h1 (by omega), h.1.2 x 1 h1 (by omega), h.2 x h1 h3⟩)
theorem NT.D {n : Nat} {μ μ1 : am_M} (h : NT μ μ1) {s T : Int} {r : List Int} (hr : ∀ x ∈ r, Nr n x) : ed_D μ1 s T r = ed_D μ s T r := by
  unfold ed_D
  rw [h.its hr, h.1.1 4 (by decide) (by decide), h.1.1 5 (by decide) (by decide)]
theorem NT.f {n : Nat} {μ μ1 : am_M} (h : NT μ μ1) {s y : Int} {r : List Int} (hr : ∀ x ∈ r, Nr n x) (hy : Nr n y) : ed_f μ1 s r y = ed_f μ s r y := by
  obtain ⟨h1, h2, h3⟩ := hy
  funext c
  unfold ed_f
  rw [h.1.2 y 8 h1 (by omega), h.1.2 y 9 h1 (by omega), h.1.2 y 0 h1 (by omega), h.1.2 (y + 1) _ (by omega) (by omega), h.1.1 4 (by decide) (by decide), h.1.1 6 (by decide) (by decide), h.D hr, h.D hr]
theorem Ntp.tr {n : Nat} {μ μ1 : am_M} (h : NT μ μ1) {r : List Int} (hr : ∀ x ∈ r, Nr n x) (ht : Ntp μ r) : Ntp μ1 r := fun x hx => by
  obtain ⟨h1, h2, h3⟩ := hr x hx
  rw [h.2 x h1 h3]
  exact ht x hx
theorem Of.nt {S : Int → Int → Prop} {μ μ1 : am_M} (h : Of S μ μ1) (hs : ∀ a j, S a j → Sk a j) (h66 : ∀ a j, S a j → a < 66 ∨ j ≠ 11) : NT μ μ1 := ⟨h.ne hs, fun a h1 h2 => h a 11 (fun z => by have := h66 a 11 z; omega)⟩
theorem rw_D_NV {h g t : Int} : ∀ {row : List rw_I}, rw_D h g row t ≤ rw_NV := by
  intro row
  cases row with
  | nil => show (0 : Int) ≤ 1000000000000; decide
  | cons it r => rw [rw_D_cons]; exact rw_b_mono (u := 0) (Nat.zero_le _)
theorem pX2_choose (n : Nat) (μ : am_M) (e s lim : Int) (r : List Int) (he : e = 18 ∨ e = 25) (hl0 : Lay n μ) (hc : Bc μ) (hE : Ew n μ e s r) (htp : Ntp μ r) (hlim : 0 ≤ lim ∧ lim ≤ 100000000) : AC 27 [(2, e), (0, lim)] n μ (PI n (fun x μ' => Of (Sv e) μ μ' ∧ ((r = [] ∧ x = 0 ∧ μ' e 12 = 0) ∨ ∃ p y v b, r = p ++ [y] ∧ FM (ed_f μ s r y) (1 + μ y 5) v b ∧ x = min v lim ∧ (v < lim → μ' e 12 = ed_cut μ y b)))) := by
  have hNV : rw_NV = 1000000000000 := rfl
  obtain ⟨w1, w2, w3, w4, w5, w6⟩ := id hE
  obtain ⟨c1, c2, c3⟩ := id hc
  have hl := hl0
  have hrN : ∀ x ∈ r, Nr n x := fun x hx => (w5 x hx).1
  refine AC.of rfl ?_
  rcases List.eq_nil_or_concat r with hp | ⟨p, y, hp⟩
  · refine aw_aload_n (q := 1) mX2_choose dX2_choose_0 rfl rfl ?_
    refine aw_iconst (q := 2) mX2_choose dX2_choose_1 rfl rfl ?_
    refine aw_put (t := 0) (ji := 12) (q := 5) mX2_choose dX2_choose_2 rfl f2_82 rfl (kdE0 he) rfl (Or.inl rfl) (Or.inl (by decide)) (fun μ_2 e_2 => ?_)
    have hl : Lay n μ_2 := by rw [e_2]; exact lfE12 hl he
    refine aw_aload_n (q := 6) mX2_choose dX2_choose_5 rfl rfl ?_
    refine aw_get (t := 0) (ji := 9) (q := 9) mX2_choose dX2_choose_6 rfl f2_41 rfl (kdE0 he) rfl (rd_sn e_2 (Or.inr (by decide)) w1) ?_
    refine aw_if_ne (tgt := 14) (q := 12) mX2_choose dX2_choose_9 rfl (by decide) (fun c_9 => ?_) (fun c_9 => ?_)
    · exact absurd c_9 (by rw [hp]; simp)
    · refine aw_iconst (q := 13) mX2_choose dX2_choose_12 rfl rfl ?_
      refine aw_iret mX2_choose dX2_choose_13 ?_
      exact ⟨0, rfl, rfl, by rw [e_2]; exact Of.rf.set (Or.inr ⟨rfl, rfl⟩), Or.inl ⟨hp, rfl, by rw [e_2, am_ss]⟩⟩
  rw [List.concat_eq_append] at hp
  have hrl : r.length = p.length + 1 := by rw [hp]; simp
  have hne : r ≠ [] := by rw [hp]; simp
  obtain ⟨hx, hxc⟩ := w5 y (by rw [hp]; simp)
  obtain ⟨n1, n2, n3, n4, n5, n6, n7⟩ := id hxc
  have hk_y := hx.k
  have hk2_y := hx.c
  have hy66 := hx.1
  have ei : (r.length : Int) - 1 = (p.length : Int) := by omega
  have erow : μ (e + 1) ((r.length : Int) - 1) = y := by rw [ei]; exact Ar.mid (s := []) (by rw [← hp]; exact w3)
  -- calls of leastCost in memory alike
  have LC : ∀ (μ1 : am_M) (T l : Int), Of (Sv e) μ μ1 → 0 ≤ T → T ≤ 500 → -100000000 ≤ l → l ≤ 100000000 → AC 29 [(2, e), (0, T), (0, l)] n μ1 (PI n (fun x μ' => x = min (ed_D μ s T r) l ∧ Of (Sv e) μ μ' ∧ μ' e 12 = μ1 e 12)) := by
    intro μ1 T l hO h1 h2 h3 h4
    have hNT : NT μ μ1 := hO.nt (Sv_Sk he) (fun a j z => by unfold Sv Se at z; omega)
    have hE1 : Ew n μ1 e s r := hE.tr hNT.1 (hO e 9 (by unfold Sv Se; omega)) (fun j => hO _ j (by unfold Sv Se; omega)) (fun j => hO _ j (by unfold Sv Se; omega))
    refine AW.mono (pX2_lc n μ1 e s T l r he (hl0.ofS hO (Sv_Sk he)) (hc.tr hNT.1) hE1 (htp.tr hNT hrN) hne ⟨h1, h2⟩ ⟨h3, h4⟩) ?_
    rintro q n' μ' ⟨x, k1, k2, k3, k4, -⟩
    rw [hNT.D hrN] at k3
    exact ⟨x, k1, k2, k3, hO.tr (k4.mono (fun a j z => Or.inl z)), k4 e 12 (by unfold Se; omega)⟩
  have F : ∀ (d : Nat) (i v b : Int) (μ1 : am_M) (v5 v6 : am_V), 0 ≤ i → i + d = μ y 5 → Of (Sv e) μ μ1 → FM (ed_f μ s r y) (1 + i) v b → (v < lim → μ1 e 12 = ed_cut μ y b) → AW none 27 39 [(2, e), (0, lim), (2, y), (0, min v lim), (0, i), v5, v6] [] n μ1 (PI n (fun x μ' => Of (Sv e) μ μ' ∧ ((r = [] ∧ x = 0 ∧ μ' e 12 = 0) ∨ ∃ p y v b, r = p ++ [y] ∧ FM (ed_f μ s r y) (1 + μ y 5) v b ∧ x = min v lim ∧ (v < lim → μ' e 12 = ed_cut μ y b)))) := by
    intro d
    induction d with
    | zero =>
      intro i v b μ1 v5 v6 h0 h1 hO hF hcut
      have e5 : μ1 y 5 = μ y 5 := hO y 5 (by unfold Sv Se; omega)
      refine aw_iload (q := 41) mX2_choose dX2_choose_39 rfl rfl ?_
      refine aw_aload_n (q := 42) mX2_choose dX2_choose_41 rfl rfl ?_
      refine aw_get (t := 0) (ji := 5) (q := 45) mX2_choose dX2_choose_42 rfl f2_72 rfl hk_y rfl e5 ?_
      refine aw_icmp_ge (tgt := 130) (q := 48) mX2_choose dX2_choose_45 rfl (by decide) (fun c_45 => ?_) (fun c_45 => ?_)
      · refine aw_iload_n (q := 131) mX2_choose dX2_choose_130 rfl rfl ?_
        refine aw_iret mX2_choose dX2_choose_131 ?_
        refine ⟨_, rfl, rfl, hO, Or.inr ⟨p, y, v, b, hp, ?_, rfl, hcut⟩⟩
        rw [show 1 + μ y 5 = 1 + i by omega]
        exact hF
      · exact absurd c_45 (by omega)
    | succ d ih =>
      intro i v b μ1 v5 v6 h0 h1 hO hF hcut
      have hl : Lay n μ1 := hl0.ofS hO (Sv_Sk he)
      have hc_y := hx.l hl
      have e5 : μ1 y 5 = μ y 5 := hO y 5 (by unfold Sv Se; omega)
      have eat : μ1 (y + 1) i = μ (y + 1) i := hO _ i (by unfold Sv Se; omega)
      have e6 : μ1 1 6 = μ 1 6 := hO 1 6 (by unfold Sv Se; omega)
      have e4 : μ1 1 4 = μ 1 4 := hO 1 4 (by unfold Sv Se; omega)
      have e9 : μ1 y 9 = μ y 9 := hO y 9 (by unfold Sv Se; omega)
      have e0 : μ1 y 0 = μ y 0 := hO y 0 (by unfold Sv Se; omega)
      have hcb := n6 i h0 (by omega)
      obtain ⟨at', hat⟩ : ∃ t, t = μ (y + 1) i := ⟨_, rfl⟩
      rw [← hat] at eat hcb
      have hf : ed_f μ s r y (1 + i) = if μ y 9 = -1 ∧ μ y 0 - at' ≤ μ 1 4 then (if ed_D μ s at' r < rw_NV then ed_D μ s at' r + μ 1 6 else rw_NV) else rw_NV := by
        unfold ed_f
        rw [if_neg (by omega), show 1 + i - 1 = i by omega, ← hat]
      have hcu : ed_cut μ y (1 + i) = at' := by
        unfold ed_cut
        rw [if_neg (by omega), show 1 + i - 1 = i by omega, ← hat]
      have hDb := ed_D_b hc hE htp (T := at') (by omega)
      have hvN : v ≤ rw_NV := by
        rcases hF with ⟨h, -⟩ | ⟨h, -⟩ <;> omega
      -- not taken
      have N : ∀ (μ2 : am_M) (w5' w6' : am_V), Of (Sv e) μ μ2 → μ2 e 12 = μ1 e 12 → ¬ ed_f μ s r y (1 + i) < min v lim → AW none 27 124 [(2, e), (0, lim), (2, y), (0, min v lim), (0, i), w5', w6'] [] n μ2 (PI n (fun x μ' => Of (Sv e) μ μ' ∧ ((r = [] ∧ x = 0 ∧ μ' e 12 = 0) ∨ ∃ p y v b, r = p ++ [y] ∧ FM (ed_f μ s r y) (1 + μ y 5) v b ∧ x = min v lim ∧ (v < lim → μ' e 12 = ed_cut μ y b)))) := by
        intro μ2 w5' w6' hO2 h12 hn
        refine aw_iinc (q := 127) mX2_choose dX2_choose_124 rfl rfl (by decide) (by omega) (by omega) rfl ?_
        refine aw_goto (q := 39) mX2_choose dX2_choose_127 (by decide) ?_
        by_cases hlt : ed_f μ s r y (1 + i) < v
        · have h9 := ih (i + 1) (ed_f μ s r y (1 + i)) (1 + i) μ2 w5' w6' (by omega) (by omega) hO2 (by rw [show 1 + (i + 1) = 1 + i + 1 by omega]; exact hF.take (by omega) hlt) (fun z => by omega)
          rw [show min (ed_f μ s r y (1 + i)) lim = min v lim by omega] at h9
          exact h9
        · exact ih (i + 1) v b μ2 w5' w6' (by omega) (by omega) hO2 (by rw [show 1 + (i + 1) = 1 + i + 1 by omega]; exact hF.skip hlt) (fun z => by rw [h12]; exact hcut z)
      refine aw_iload (q := 41) mX2_choose dX2_choose_39 rfl rfl ?_
      refine aw_aload_n (q := 42) mX2_choose dX2_choose_41 rfl rfl ?_
      refine aw_get (t := 0) (ji := 5) (q := 45) mX2_choose dX2_choose_42 rfl f2_72 rfl hk_y rfl e5 ?_
      refine aw_icmp_ge (tgt := 130) (q := 48) mX2_choose dX2_choose_45 rfl (by decide) (fun c_45 => ?_) (fun c_45 => ?_)
      · exact absurd c_45 (by omega)
      · refine aw_aload_n (q := 49) mX2_choose dX2_choose_48 rfl rfl ?_
        refine aw_get (t := 2) (ji := 4) (q := 52) mX2_choose dX2_choose_49 rfl f2_75 rfl hk_y rfl hc_y ?_
        refine aw_iload (q := 54) mX2_choose dX2_choose_52 rfl rfl ?_
        refine aw_iald (q := 55) mX2_choose dX2_choose_54 rfl hk2_y (by omega) (by show i < 3; omega) eat ?_
        refine aw_istore (q := 57) mX2_choose dX2_choose_55 rfl (by decide) rfl ?_
        refine aw_iload_n (q := 58) mX2_choose dX2_choose_57 rfl rfl ?_
        refine aw_aload_n (q := 59) mX2_choose dX2_choose_58 rfl rfl ?_
        refine aw_get (t := 2) (ji := 0) (q := 62) mX2_choose dX2_choose_59 rfl f2_33 rfl (kdE0 he) rfl (lyE0 hl he) ?_
        refine aw_get (t := 0) (ji := 6) (q := 65) mX2_choose dX2_choose_62 rfl f2_89 rfl kd_1 rfl e6 ?_
        refine aw_icmp_le (tgt := 124) (q := 68) mX2_choose dX2_choose_65 rfl (by decide) (fun c_65 => ?_) (fun c_65 => ?_)
        · refine N μ1 _ _ hO rfl ?_
          rw [hf]
          split
          · split
            · have := hDb (by assumption); omega
            · omega
          · omega
        · have hlv := pX3_leavesAtMost n μ1 y (μ 1 4) at' hk_y (by omega) (by omega)
          rw [e9, e0] at hlv
          refine aw_aload_n (q := 69) mX2_choose dX2_choose_68 rfl rfl ?_
          refine aw_aload_n (q := 70) mX2_choose dX2_choose_69 rfl rfl ?_
          refine aw_get (t := 2) (ji := 0) (q := 73) mX2_choose dX2_choose_70 rfl f2_33 rfl (kdE0 he) rfl (lyE0 hl he) ?_
          refine aw_get (t := 0) (ji := 4) (q := 76) mX2_choose dX2_choose_73 rfl f2_65 rfl kd_1 rfl e4 ?_
          refine aw_iload (q := 78) mX2_choose dX2_choose_76 rfl rfl ?_
          refine aw_v2 (ci := 3) (q := 81) mX2_choose dX2_choose_78 rfl l2_78 k27_34 rfl hk_y rfl rfl rfl (hlv) (kint (fun z μ3 hz => ?_))
          obtain ⟨hm3, hz⟩ := hz
          subst hm3
          refine aw_if_eq (tgt := 124) (q := 84) mX2_choose dX2_choose_81 rfl (by decide) (fun c_81 => ?_) (fun c_81 => ?_)
          · refine N μ3 _ _ hO rfl ?_
            rw [hf, if_neg (by
              rcases hz with ⟨y1, -⟩ | ⟨-, y2⟩
              · omega
              · exact y2)]
            omega
          · have hle : μ y 9 = -1 ∧ μ y 0 - at' ≤ μ 1 4 := by
              rcases hz with ⟨-, y2⟩ | ⟨y1, -⟩
              · exact y2
              · exact absurd y1 c_81
            rw [if_pos hle] at hf
            refine aw_aload_n (q := 85) mX2_choose dX2_choose_84 rfl rfl ?_
            refine aw_get (t := 2) (ji := 0) (q := 88) mX2_choose dX2_choose_85 rfl f2_33 rfl (kdE0 he) rfl (lyE0 hl he) ?_
            refine aw_get (t := 0) (ji := 6) (q := 91) mX2_choose dX2_choose_88 rfl f2_89 rfl kd_1 rfl e6 ?_
            refine aw_aload_n (q := 92) mX2_choose dX2_choose_91 rfl rfl ?_
            refine aw_iload (q := 94) mX2_choose dX2_choose_92 rfl rfl ?_
            refine aw_iload_n (q := 95) mX2_choose dX2_choose_94 rfl rfl ?_
            refine aw_aload_n (q := 96) mX2_choose dX2_choose_95 rfl rfl ?_
            refine aw_get (t := 2) (ji := 0) (q := 99) mX2_choose dX2_choose_96 rfl f2_33 rfl (kdE0 he) rfl (lyE0 hl he) ?_
            refine aw_get (t := 0) (ji := 6) (q := 102) mX2_choose dX2_choose_99 rfl f2_89 rfl kd_1 rfl e6 ?_
            refine aw_isub (q := 103) mX2_choose dX2_choose_102 rfl (by omega) (by omega) ?_
            refine aw_v2 (ci := 2) (q := 106) mX2_choose dX2_choose_103 rfl l2_85 k27_29 rfl (kdE0 he) rfl rfl rfl (LC μ3 at' (min v lim - μ 1 6) hO (by omega) (by omega) (by omega) (by omega)) (kint (fun z μ4 hz => ?_))
            obtain ⟨z1, z2, z3⟩ := hz
            have hl : Lay n μ4 := hl0.ofS z2 (Sv_Sk he)
            have hD0 : 0 ≤ ed_D μ s at' r := by
              by_cases hD : ed_D μ s at' r < rw_NV
              · exact (hDb hD).1
              · omega
            refine aw_iadd (q := 107) mX2_choose dX2_choose_106 rfl (by omega) (by omega) ?_
            refine aw_istore (q := 109) mX2_choose dX2_choose_107 rfl (by decide) rfl ?_
            refine aw_iload (q := 111) mX2_choose dX2_choose_109 rfl rfl ?_
            refine aw_iload_n (q := 112) mX2_choose dX2_choose_111 rfl rfl ?_
            refine aw_icmp_ge (tgt := 124) (q := 115) mX2_choose dX2_choose_112 rfl (by decide) (fun c_112 => ?_) (fun c_112 => ?_)
            · refine N μ4 _ _ z2 z3 ?_
              rw [hf]
              split <;> omega
            · have hfe : ed_f μ s r y (1 + i) = μ 1 6 + z := by
                rw [hf, if_pos (by omega)]; omega
              refine aw_iload (q := 117) mX2_choose dX2_choose_115 rfl rfl ?_
              refine aw_istore_n (q := 118) mX2_choose dX2_choose_117 rfl (by decide) rfl ?_
              refine aw_aload_n (q := 119) mX2_choose dX2_choose_118 rfl rfl ?_
              refine aw_iload (q := 121) mX2_choose dX2_choose_119 rfl rfl ?_
              refine aw_put (t := 0) (ji := 12) (q := 124) mX2_choose dX2_choose_121 rfl f2_82 rfl (kdE0 he) rfl (Or.inl rfl) (Or.inl (by decide)) (fun μ_121 e_121 => ?_)
              have hl : Lay n μ_121 := by rw [e_121]; exact lfE12 hl he
              refine aw_iinc (q := 127) mX2_choose dX2_choose_124 rfl rfl (by decide) (by omega) (by omega) rfl ?_
              refine aw_goto (q := 39) mX2_choose dX2_choose_127 (by decide) ?_
              have h9 := ih (i + 1) (ed_f μ s r y (1 + i)) (1 + i) μ_121 (0, at') (0, μ 1 6 + z) (by omega) (by omega) (by rw [e_121]; exact z2.set (Or.inr ⟨rfl, rfl⟩)) (by rw [show 1 + (i + 1) = 1 + i + 1 by omega]; exact hF.take (by omega) (by omega)) (fun _ => by rw [e_121, am_ss, hcu])
              rw [show min (ed_f μ s r y (1 + i)) lim = μ 1 6 + z by omega] at h9
              exact h9
  have hf0 : ed_f μ s r y 0 = ed_D μ s (μ y 8) r := by unfold ed_f; rw [if_pos (by omega)]
  refine aw_aload_n (q := 1) mX2_choose dX2_choose_0 rfl rfl ?_
  refine aw_iconst (q := 2) mX2_choose dX2_choose_1 rfl rfl ?_
  refine aw_put (t := 0) (ji := 12) (q := 5) mX2_choose dX2_choose_2 rfl f2_82 rfl (kdE0 he) rfl (Or.inl rfl) (Or.inl (by decide)) (fun μ_2 e_2 => ?_)
  have hl : Lay n μ_2 := by rw [e_2]; exact lfE12 hl he
  refine aw_aload_n (q := 6) mX2_choose dX2_choose_5 rfl rfl ?_
  refine aw_get (t := 0) (ji := 9) (q := 9) mX2_choose dX2_choose_6 rfl f2_41 rfl (kdE0 he) rfl (rd_sn e_2 (Or.inr (by decide)) w1) ?_
  refine aw_if_ne (tgt := 14) (q := 12) mX2_choose dX2_choose_9 rfl (by decide) (fun c_9 => ?_) (fun c_9 => ?_)
  · have hO2 : Of (Sv e) μ μ_2 := by rw [e_2]; exact Of.rf.set (Or.inr ⟨rfl, rfl⟩)
    refine aw_aload_n (q := 15) mX2_choose dX2_choose_14 rfl rfl ?_
    refine aw_get (t := 2) (ji := 2) (q := 18) mX2_choose dX2_choose_15 rfl f2_11 rfl (kdE0 he) rfl (lyE2 hl he) ?_
    refine aw_aload_n (q := 19) mX2_choose dX2_choose_18 rfl rfl ?_
    refine aw_get (t := 0) (ji := 9) (q := 22) mX2_choose dX2_choose_19 rfl f2_41 rfl (kdE0 he) rfl (rd_sn e_2 (Or.inr (by decide)) w1) ?_
    refine aw_iconst (q := 23) mX2_choose dX2_choose_22 rfl rfl ?_
    refine aw_isub (q := 24) mX2_choose dX2_choose_23 rfl (by omega) (by omega) ?_
    refine aw_aald (q := 25) mX2_choose dX2_choose_24 rfl (kdE1 he) (by omega) (by omega) (rd_sn e_2 (Or.inl (by omega)) erow) ?_
    refine aw_astore_n (q := 26) mX2_choose dX2_choose_25 rfl (by decide) rfl ?_
    refine aw_aload_n (q := 27) mX2_choose dX2_choose_26 rfl rfl ?_
    refine aw_aload_n (q := 28) mX2_choose dX2_choose_27 rfl rfl ?_
    refine aw_get (t := 0) (ji := 8) (q := 31) mX2_choose dX2_choose_28 rfl f2_55 rfl hk_y rfl (rd_sn e_2 (Or.inl (by omega)) rfl) ?_
    refine aw_iload_n (q := 32) mX2_choose dX2_choose_31 rfl rfl ?_
    refine aw_v2 (ci := 2) (q := 35) mX2_choose dX2_choose_32 rfl l2_85 k27_29 rfl (kdE0 he) rfl rfl rfl (LC μ_2 (μ y 8) lim hO2 (by omega) (by omega) (by omega) (by omega)) (kint (fun z μ4 hz => ?_))
    obtain ⟨z1, z2, z3⟩ := hz
    have hl : Lay n μ4 := hl0.ofS z2 (Sv_Sk he)
    refine aw_istore_n (q := 36) mX2_choose dX2_choose_35 rfl (by decide) rfl ?_
    refine aw_iconst (q := 37) mX2_choose dX2_choose_36 rfl rfl ?_
    refine aw_istore (q := 39) mX2_choose dX2_choose_37 rfl (by decide) rfl ?_
    have hD1 : ed_D μ s (μ y 8) r ≤ rw_NV := rw_D_NV
    by_cases hD : ed_D μ s (μ y 8) r < rw_NV
    · have h9 := F (μ y 5).toNat 0 (ed_f μ s r y 0) 0 μ4 (9, 0) (9, 0) (by omega) (by omega) z2 (FM.zero.take (b := 0) (by omega) (by rw [hf0]; exact hD)) (fun _ => by
        rw [z3, e_2, am_ss]
        unfold ed_cut
        rw [if_pos (by omega)])
      rw [hf0, ← z1] at h9
      exact h9
    · have h9 := F (μ y 5).toNat 0 rw_NV 0 μ4 (9, 0) (9, 0) (by omega) (by omega) z2 (FM.zero.skip (b := 0) (by rw [hf0]; exact hD)) (fun q => by omega)
      rw [show min rw_NV lim = z by omega] at h9
      exact h9
  · exact absurd c_9 (by omega)

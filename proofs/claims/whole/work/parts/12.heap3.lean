section
variable {p : Program} {l : Launch} {e : Env} {R : Room} {s : State} {m : MethodId} {args : Array Value} {below : List Frame} {meth : Method} {c : Code} {Q : State → Prop} {D : va_G} {dA : Nat → ClassId} {b : Nat} {A : Nat → Prop} {k n0 : Nat} {ad : Nat → Nat} {n pc : Nat} {L st : List am_V} {μ : am_M} {cls : Array Slot} {H : Heap} {locs : List Loc} {sc : am_Sc} {pc' : Nat} {L' st' : List am_V} {n' : Nat} {μ' : am_M}
theorem am_alloc {q N' : Nat} {cE : va_E} {f : Int → Int} {H1 : Heap} (hH : am_H D dA b A s ad n μ H locs) (hL : am_L b ad L cls (am_ml k)) (hLo : am_oks n L) (hso : am_oks n st) (hn0 : n0 ≤ n) (hlen : am_len (am_kind (n : Int)) = N') (hf : ∀ j : Int, am_ok (n + 1) (am_tag (am_kind (n : Int)) j.toNat, f j)) (hcell : ∀ ad' : Nat → Nat, (∀ i, i < n → ad' i = ad i) → ad' n = q → am_cell dA b ad' (am_kind (n : Int)) f = cE)
    (hP : va_P D vwCl (am_W dA b ad n μ ++ [(q, cE)]) H1) (hD : va_D A (am_W dA b ad n μ ++ [(q, cE)])) (hS : va_S A s.heap H1 locs)
    (kk : am_Kk p l e R s m args below meth c Q D dA b A k n0 ad n pc' L ((2, (n : Int)) :: st) (n + 1) (am_new μ (n : Int) f)) : W p l e R s m args below meth c H1 locs (n - n0 + 1) (am_sl n - am_sl n0 + N') Q (F0 m pc' cls (.ref q :: st.map (am_cv b ad))) := by
  let ad' : Nat → Nat := fun i => if i = n then q else ad i
  have ha : ∀ i, i < n → ad' i = ad i := fun i hi => if_neg (by omega)
  have hq : ad' n = q := if_pos rfl
  have hW := am_W_push (dA := dA) (b := b) (ad := ad) (ad' := ad') (μ := μ) (μ' := am_new μ (n : Int) f) (q := q) (c := cE) hH.2.2.2.2.1 ha (fun a h => by unfold am_new; funext z; rw [if_neg (by omega)]) hq (by
    rw [← hcell ad' ha hq]
    congr 1
    funext z
    unfold am_new
    rw [if_pos rfl])
  rw [hW] at hP hD
  have h1 := kk ad' cls H1 locs ha ⟨hH.1, hP, hD, hS, am_G_new hH.2.2.2.2.1 hf, hH.2.2.2.2.2⟩ (am_L_congr ha hLo hL) (am_oks_mono (Nat.le_succ n) hLo) (am_oks_cons (show ((n : Int)) < ((n + 1 : Nat) : Int) by omega) (am_oks_mono (Nat.le_succ n) hso))
  rw [List.map_cons, am_cvs_congr ha hso, am_cv2p b ad' (by omega), Int.toNat_natCast, hq] at h1
  refine W.cs (by omega) ?_ h1
  have := am_sl_mono hn0
  show am_sl n - am_sl n0 + N' = am_sl n + am_len (am_kind (n : Int)) - am_sl n0
  omega
theorem am_dA {t : Nat} {ty : FieldType} {cA cB : ClassId} (hK : va_K D vwCl (am_tys dA) s) (ht : (am_tys dA)[t]? = some (cB, ty)) (hK2 : va_K D vwCl (am_tys dA ++ [(cA, ty)]) s) (hp : va_RA s cA ty → va_RA s cB ty → cA = cB) : cA = cB := by
  exact hp (hK2.2 4 (cA, ty) rfl).2 (hK.2 t (cB, ty) ht).2
theorem am_o_newi {x : Int} {ty : ArrayType} (hF : am_F p R s m args meth c k) (hH : am_H D dA b A s ad n μ H locs) (hL : am_L b ad L cls (am_ml k)) (hLo : am_oks n L)  (hso : am_oks n ((0, x) :: st)) (hd : decode (am_by k) pc = .ok (.newarray ty, 2)) (hty : newarray.typeOf ty = .int) (hx0 : 0 ≤ x) (hk : am_kind (n : Int) = (1, x.toNat)) (hn0 : n0 ≤ n) (hc : n + 1 - n0 ≤ R.cells) (hs : am_sl (n + 1) - am_sl n0 ≤ R.slots) (kk : am_Kk p l e R s m args below meth c Q D dA b A k n0 ad n (pc + 2) (L) ((2, (n : Int)) :: st) (n + 1) (am_new μ (n : Int) (fun _ => 0))) : W p l e R s m args below meth c H locs (n - n0) (am_sl n - am_sl n0) Q (F0 m pc cls (((0, x) :: st).map (am_cv b ad))) := by
  obtain ⟨hx, hb, hml, hown, hts, -⟩ := hF
  have hx32 : -2147483648 ≤ x ∧ x < 2147483648 := am_oks_head hso
  have hl : am_len (am_kind (n : Int)) = x.toNat := by rw [hk]; rfl
  have hsl : am_sl (n + 1) = am_sl n + x.toNat := by show am_sl n + am_len (am_kind (n : Int)) = _; rw [hl]
  have hz := am_kind_lt (n : Int)
  rw [hk] at hz
  have hm := am_sl_mono hn0
  have hsm : x.toNat ≤ 10025 := by
    have := am_kind_lt2 (n : Int)
    rw [hk] at this
    exact this
  refine va_newa (N' := x.toNat) (a0 := (x.toNat, .inl (fun _ => Int32.ofInt 0))) hx hb (ty := .int) (by rw [hty]; exact hts _ (am_mem am_v_arr.1 rfl)) hty hH.1 hH.2.1 hH.2.2.1 hH.2.2.2.1 hH.2.2.2.2.2 (fun _ => rfl) (by rw [← Int32.not_le, Decidable.not_not]; exact (am_le32 (by decide) hx32).mpr hx0) (am_clamp hx0 hx32.2) (by show x.toNat * 4 ≤ _; omega) (by omega) (by omega) hd (fun q cA H1 hK2 hP hD hS => ?_)
  have e : cA = dA 0 := am_dA (t := 0) hH.1 rfl hK2 (fun h1 h2 => Option.some.inj (h1.symm.trans h2))
  subst e
  exact am_alloc hH hL hLo (am_oks_tail hso) hn0 hl (fun j => by rw [hk]; exact ⟨by show _ ≤ (0 : Int); decide, by show (0 : Int) < _; decide⟩) (fun ad' _ _ => by rw [hk]; rfl) hP hD hS kk
theorem am_o_newl {x : Int} {ty : ArrayType} (hF : am_F p R s m args meth c k) (hH : am_H D dA b A s ad n μ H locs) (hL : am_L b ad L cls (am_ml k)) (hLo : am_oks n L)  (hso : am_oks n ((0, x) :: st)) (hd : decode (am_by k) pc = .ok (.newarray ty, 2)) (hty : newarray.typeOf ty = .long) (hx0 : 0 ≤ x) (hk : am_kind (n : Int) = (2, x.toNat)) (hn0 : n0 ≤ n) (hc : n + 1 - n0 ≤ R.cells) (hs : am_sl (n + 1) - am_sl n0 ≤ R.slots) (kk : am_Kk p l e R s m args below meth c Q D dA b A k n0 ad n (pc + 2) (L) ((2, (n : Int)) :: st) (n + 1) (am_new μ (n : Int) (fun _ => 0))) : W p l e R s m args below meth c H locs (n - n0) (am_sl n - am_sl n0) Q (F0 m pc cls (((0, x) :: st).map (am_cv b ad))) := by
  obtain ⟨hx, hb, hml, hown, hts, -⟩ := hF
  have hx32 : -2147483648 ≤ x ∧ x < 2147483648 := am_oks_head hso
  have hl : am_len (am_kind (n : Int)) = x.toNat := by rw [hk]; rfl
  have hsl : am_sl (n + 1) = am_sl n + x.toNat := by show am_sl n + am_len (am_kind (n : Int)) = _; rw [hl]
  have hm := am_sl_mono hn0
  have hsm : x.toNat ≤ 10025 := by
    have := am_kind_lt2 (n : Int)
    rw [hk] at this
    exact this
  refine va_newa (N' := x.toNat) (a0 := (x.toNat, .inr (.inl (fun _ => Int64.ofInt 0)))) hx hb (ty := .long) (by rw [hty]; exact hts _ (am_mem am_v_arr.2.1 rfl)) hty hH.1 hH.2.1 hH.2.2.1 hH.2.2.2.1 hH.2.2.2.2.2 (fun _ => rfl) (by rw [← Int32.not_le, Decidable.not_not]; exact (am_le32 (by decide) hx32).mpr hx0) (am_clamp hx0 hx32.2) (by show x.toNat * 8 ≤ _; omega) (by omega) (by omega) hd (fun q cA H1 hK2 hP hD hS => ?_)
  have e : cA = dA 1 := am_dA (t := 1) hH.1 rfl hK2 (fun h1 h2 => Option.some.inj (h1.symm.trans h2))
  subst e
  exact am_alloc hH hL hLo (am_oks_tail hso) hn0 hl (fun j => by rw [hk]; exact ⟨by show _ ≤ (0 : Int); decide, by show (0 : Int) < _; decide⟩) (fun ad' _ _ => by rw [hk]; rfl) hP hD hS kk
theorem am_o_newn {x : Int} {idx : Nat} (hF : am_F p R s m args meth c k) (hH : am_H D dA b A s ad n μ H locs) (hL : am_L b ad L cls (am_ml k)) (hLo : am_oks n L)  (hso : am_oks n ((0, x) :: st)) (hd : decode (am_by k) pc = .ok (.anewarray idx, 3)) (ht : (am_nls.lookup (am_cl k, idx)).map (fun q => q.1) = some 100) (hx0 : 0 ≤ x) (hk : am_kind (n : Int) = (3, x.toNat)) (hn0 : n0 ≤ n) (hc : n + 1 - n0 ≤ R.cells) (hs : am_sl (n + 1) - am_sl n0 ≤ R.slots) (kk : am_Kk p l e R s m args below meth c Q D dA b A k n0 ad n (pc + 3) (L) ((2, (n : Int)) :: st) (n + 1) (am_new μ (n : Int) (fun _ => -1))) : W p l e R s m args below meth c H locs (n - n0) (am_sl n - am_sl n0) Q (F0 m pc cls (((0, x) :: st).map (am_cv b ad))) := by
  obtain ⟨hx, hb, hml, hown, hts, hXs, -⟩ := hF
  have hx32 : -2147483648 ≤ x ∧ x < 2147483648 := am_oks_head hso
  have hl : am_len (am_kind (n : Int)) = x.toNat := by rw [hk]; rfl
  have hsl : am_sl (n + 1) = am_sl n + x.toNat := by show am_sl n + am_len (am_kind (n : Int)) = _; rw [hl]
  have hm := am_sl_mono hn0
  have hsm : x.toNat ≤ 10025 := by
    have := am_kind_lt2 (n : Int)
    rw [hk] at this
    exact this
  obtain ⟨⟨q1, q2⟩, h1, h2⟩ := Option.map_eq_some_iff.mp ht
  dsimp only at h2
  subst h2
  have hw := of_decide_eq_true (List.all_eq_true.mp am_v_nls0 _ (am_lookup h1))
  refine va_newq (N' := x.toNat) hx hb hown (C := RX3) (hts _ (am_mem hw rfl)) hXs.1 hH.1 hH.2.1 hH.2.2.1 hH.2.2.2.1 hH.2.2.2.2.2 (by rw [← Int32.not_le, Decidable.not_not]; exact (am_le32 (by decide) hx32).mpr hx0) (am_clamp hx0 hx32.2) (by omega) (by omega) (by omega) hd (fun q cA H1 hK2 hP hD hS => ?_)
  have e : cA = dA 2 := am_dA (t := 2) hH.1 rfl hK2 (fun h1 h2 => by
    obtain ⟨-, -, -, -, -, h3⟩ := h1
    obtain ⟨-, -, -, -, -, h4⟩ := h2
    exact Option.some.inj (h3.symm.trans h4))
  subst e
  exact am_alloc hH hL hLo (am_oks_tail hso) hn0 hl (fun j => by rw [hk]; show (-1 : Int) < _; omega) (fun ad' _ _ => by rw [hk]; rfl) hP hD hS kk
theorem am_o_mna {x y : Int} {idx : Nat} (hF : am_F p R s m args meth c k) (hH : am_H D dA b A s ad n μ H locs) (hL : am_L b ad L cls (am_ml k)) (hLo : am_oks n L)  (hso : am_oks n ((0, x) :: (0, y) :: st)) (hd : decode (am_by k) pc = .ok (.multianewarray idx 2, 4)) (ht : (am_nls.lookup (am_cl k, idx)).map (fun q => q.1) = some 101) (hy : y = 2) (hx0 : 0 ≤ x) (hk : am_kind (n : Int) = (4, 2)) (hk1 : am_kind ((n : Int) + 1) = (1, x.toNat)) (hk2 : am_kind ((n : Int) + 2) = (1, x.toNat)) (hn0 : n0 ≤ n) (hc : n + 3 - n0 ≤ R.cells) (hs : am_sl (n + 3) - am_sl n0 ≤ R.slots) (kk : am_Kk p l e R s m args below meth c Q D dA b A k n0 ad n (pc + 4) (L) ((2, (n : Int)) :: st) (n + 3) (am_new (am_new (am_new μ n (fun j => if j = 0 then n + 1 else if j = 1 then n + 2 else -1)) (n + 1) (fun _ => 0)) (n + 2) (fun _ => 0))) : W p l e R s m args below meth c H locs (n - n0) (am_sl n - am_sl n0) Q (F0 m pc cls (((0, x) :: (0, y) :: st).map (am_cv b ad))) := by
  obtain ⟨hx, hb, hml, hown, hts, hXs, -⟩ := hF
  subst hy
  have hx32 : -2147483648 ≤ x ∧ x < 2147483648 := am_oks_head hso
  have hsl : am_sl (n + 3) = am_sl n + 2 + x.toNat + x.toNat := by
    show am_sl n + am_len (am_kind (n : Int)) + am_len (am_kind ((n + 1 : Nat) : Int)) + am_len (am_kind ((n + 2 : Nat) : Int)) = _
    rw [hk, show ((n + 1 : Nat) : Int) = (n : Int) + 1 by omega, show ((n + 2 : Nat) : Int) = (n : Int) + 2 by omega, hk1, hk2]
    rfl
  have hm := am_sl_mono hn0
  have hsm : x.toNat ≤ 10025 := by
    have := am_kind_lt2 ((n : Int) + 1)
    rw [hk1] at this
    exact this
  obtain ⟨⟨q1, q2⟩, h1, h2⟩ := Option.map_eq_some_iff.mp ht
  dsimp only at h2
  subst h2
  have hw := of_decide_eq_true (List.all_eq_true.mp am_v_nls0 _ (am_lookup h1))
  have hcy : s.vm.findClass (FieldType.array .int).toString = some (dA 0) := (hH.1.2 0 (dA 0, .int) rfl).2
  refine va_mna (X := am_W dA b ad n μ) (L := []) (f := fun _ => .inr (0, [])) (ty := .int) (cy := dA 0) (N' := 2) (K' := x.toNat) (z := (x.toNat, .inl (fun _ => Int32.ofInt 0))) hx hb hown (hts _ (am_mem hw rfl)) hXs.2.1 (hts _ (am_mem am_v_arr.1 rfl)) hcy hH.1 (by show va_P D vwCl (am_W dA b ad n μ ++ []) H; rw [List.append_nil]; exact hH.2.1) (by show va_D A (am_W dA b ad n μ ++ []); rw [List.append_nil]; exact hH.2.2.1) hH.2.2.2.1 hH.2.2.2.2.2 (by show ¬ Int32.ofInt 2 < 0; decide) (by rw [← Int32.not_le, Decidable.not_not]; exact (am_le32 (by decide) hx32).mpr hx0) (by rfl) (am_clamp hx0 hx32.2) (by decide) (by show x.toNat * 4 ≤ _; omega) (by omega) rfl rfl (by omega) (by omega) (fun c => ?_) hd (fun q r cA H1 hinj _ hK2 hP hD hS => ?_)
  · show ({ cls := c, slots := Array.replicate x.toNat (Value.int 0), vm := .none } : Cell) = _
    rw [arrV_new]
    rfl
  have e : cA = dA 3 := am_dA (t := 3) hH.1 rfl hK2 (fun h1 h2 => Option.some.inj (h1.symm.trans h2))
  subst e
  have hpl : va_pl ([] ++ (List.range 2).map r) (vr_up (fun _ => .inr (0, [])) ((List.range 2).map r) (.inl (dA 0, x.toNat, .inl (fun _ => Int32.ofInt 0)))) = ([(r 0, .inl (dA 0, x.toNat, .inl (fun _ => Int32.ofInt 0))), (r 1, .inl (dA 0, x.toNat, .inl (fun _ => Int32.ofInt 0)))] : va_W) := by
    show ([(r 0, vr_up _ [r 0, r 1] _ (r 0)), (r 1, vr_up _ [r 0, r 1] _ (r 1))] : va_W) = _
    rw [vr_up_in (by simp), vr_up_in (by simp)]
  rw [hpl] at hP hD
  let ad' : Nat → Nat := fun i => if i = n then q else if i = n + 1 then r 0 else if i = n + 2 then r 1 else ad i
  let μ' : am_M := am_new (am_new (am_new μ n (fun j => if j = 0 then n + 1 else if j = 1 then n + 2 else -1)) (n + 1) (fun _ => 0)) (n + 2) (fun _ => 0)
  have ha : ∀ i, i < n → ad' i = ad i := fun i hi => by
    show (if i = n then q else if i = n + 1 then r 0 else if i = n + 2 then r 1 else ad i) = ad i
    rw [if_neg (by omega), if_neg (by omega), if_neg (by omega)]
  have a0 : ad' n = q := if_pos rfl
  have a1 : ad' (n + 1) = r 0 := by
    show (if n + 1 = n then q else if n + 1 = n + 1 then r 0 else if n + 1 = n + 2 then r 1 else ad (n + 1)) = r 0
    rw [if_neg (by omega), if_pos rfl]
  have a2 : ad' (n + 2) = r 1 := by
    show (if n + 2 = n then q else if n + 2 = n + 1 then r 0 else if n + 2 = n + 2 then r 1 else ad (n + 2)) = r 1
    rw [if_neg (by omega), if_neg (by omega), if_pos rfl]
  have m0 : ∀ a : Int, a < (n : Int) → μ' a = μ a := fun a h => by
    funext z
    show (if a = (n : Int) + 2 then 0 else if a = (n : Int) + 1 then 0 else if a = (n : Int) then _ else μ a z) = μ a z
    rw [if_neg (by omega), if_neg (by omega), if_neg (by omega)]
  have m1 : μ' (n : Int) = (fun j => if j = 0 then (n : Int) + 1 else if j = 1 then (n : Int) + 2 else -1) := by
    funext z
    show (if (n : Int) = (n : Int) + 2 then 0 else if (n : Int) = (n : Int) + 1 then 0 else if (n : Int) = (n : Int) then (if z = 0 then (n : Int) + 1 else if z = 1 then (n : Int) + 2 else -1) else μ n z) = _
    rw [if_neg (by omega), if_neg (by omega), if_pos rfl]
  have m2 : μ' ((n : Int) + 1) = (fun _ => 0) := by
    funext z
    show (if (n : Int) + 1 = (n : Int) + 2 then (0 : Int) else if (n : Int) + 1 = (n : Int) + 1 then 0 else _) = 0
    rw [if_neg (by omega), if_pos rfl]
  have m3 : μ' ((n : Int) + 2) = (fun _ => 0) := by
    funext z
    show (if (n : Int) + 2 = (n : Int) + 2 then (0 : Int) else _) = 0
    rw [if_pos rfl]
  have hW : (am_W dA b ad n μ ++ [(q, .inl (dA 3, 2, .inr (.inr (.inr (.inr (fun i => if i < 2 then some (r i) else none))))))]) ++ ([(r 0, .inl (dA 0, x.toNat, .inl (fun _ => Int32.ofInt 0))), (r 1, .inl (dA 0, x.toNat, .inl (fun _ => Int32.ofInt 0)))] : va_W) = am_W dA b ad' (n + 3) μ' := by
    unfold am_W
    rw [List.range_succ, List.range_succ, List.range_succ]
    simp only [List.map_append, List.map_cons, List.map_nil, List.append_assoc]
    congr 1
    · apply List.map_congr_left
      intro i hi
      have hi := List.mem_range.mp hi
      rw [ha i hi, m0 (i : Int) (by omega), am_cell_congr ha (hH.2.2.2.2.1 i hi)]
    · rw [a0, a1, a2, show ((n + 1 : Nat) : Int) = (n : Int) + 1 by omega, show ((n + 2 : Nat) : Int) = (n : Int) + 2 by omega, hk, hk1, hk2, m1, m2, m3, am_c_ii, am_c_int]
      have e : (fun i : Nat => am_rf ad' (if (i : Int) = 0 then (n : Int) + 1 else if (i : Int) = 1 then (n : Int) + 2 else -1)) = fun i => if i < 2 then some (r i) else none := by
        funext i
        match i with
        | 0 =>
          show am_rf ad' ((n : Int) + 1) = some (r 0)
          unfold am_rf
          rw [if_neg (by omega), show ((n : Int) + 1).toNat = n + 1 by omega, a1]
        | 1 =>
          show am_rf ad' ((n : Int) + 2) = some (r 1)
          unfold am_rf
          rw [if_neg (by omega), show ((n : Int) + 2).toNat = n + 2 by omega, a2]
        | i + 2 =>
          rw [if_neg (by omega), if_neg (by omega), if_neg (by omega)]
          rfl
      rw [e]
      rfl
  rw [hW] at hP hD
  have hG' : am_G (n + 3) μ' := by
    intro i hi j
    by_cases h1 : i < n
    · rw [m0 (i : Int) (by omega)]
      exact am_ok_mono (by omega) (hH.2.2.2.2.1 i h1 j)
    · by_cases h2 : i = n
      · subst h2
        rw [hk, m1]
        show (if j = 0 then (i : Int) + 1 else if j = 1 then (i : Int) + 2 else -1) < ((i + 3 : Nat) : Int)
        split
        · omega
        · split <;> omega
      · by_cases h3 : i = n + 1
        · subst h3
          rw [show ((n + 1 : Nat) : Int) = (n : Int) + 1 by omega, hk1, m2]
          exact ⟨by show _ ≤ (0 : Int); decide, by show (0 : Int) < _; decide⟩
        · have h4 : i = n + 2 := by omega
          subst h4
          rw [show ((n + 2 : Nat) : Int) = (n : Int) + 2 by omega, hk2, m3]
          exact ⟨by show _ ≤ (0 : Int); decide, by show (0 : Int) < _; decide⟩
  have hr := am_oks_tail (am_oks_tail hso)
  have h9 := kk ad' cls H1 locs ha ⟨hH.1, hP, hD, hS, hG', hH.2.2.2.2.2⟩ (am_L_congr ha hLo hL) (am_oks_mono (by omega) hLo) (am_oks_cons (show ((n : Int)) < ((n + 3 : Nat) : Int) by omega) (am_oks_mono (by omega) hr))
  rw [List.map_cons, am_cvs_congr ha hr, am_cv2p b ad' (by omega), Int.toNat_natCast, a0] at h9
  exact W.cs (by omega) (by omega) h9
theorem am_zero_ok (n : Nat) (q : Nat × Nat) (j : Int) : am_ok n (am_tag q j.toNat, am_zero q j) := by
  unfold am_zero
  generalize am_tag q j.toNat = t
  match t with
  | 0 => exact ⟨by decide, by decide⟩
  | 1 => exact ⟨by decide, by decide⟩
  | 2 => show (-1 : Int) < _; omega
  | _ + 3 => trivial
theorem am_zero_v {ci j : Nat} (h8 : ci < 8) (hj : j < am_N ci) : defaultValue (am_tyo ci j) = am_cv b ad (am_ft ci j, am_zero (0, ci) (j : Int)) := by
  have h := ((am_clsv h8).2.2.2 j hj).2.2.2
  have h3 : (am_fs ci j).1 ≤ 3 := of_decide_eq_true (am_all (am_all am_v_fs3 h8) hj)
  unfold am_zero
  show defaultValue (am_tyo ci j) = am_cv b ad (am_ft ci j, if am_ft ci ((j : Int)).toNat = 2 then -1 else 0)
  rw [Int.toNat_natCast]
  unfold am_ft
  generalize am_tyo ci j = ty at h ⊢
  generalize (am_fs ci j).1 = t at h h3 ⊢
  subst h
  cases ty with
  | int => rfl
  | long => rfl
  | boolean => rfl
  | object C => rfl
  | array C => rfl
  | _ => exact absurd h3 (by decide)
theorem am_o_new {idx ci w : Nat} (hF : am_F p R s m args meth c k) (hH : am_H D dA b A s ad n μ H locs) (hL : am_L b ad L cls (am_ml k)) (hLo : am_oks n L)  (hso : am_oks n st) (hd : decode (am_by k) pc = .ok (.new idx, 3)) (ht : am_nls.lookup (am_cl k, idx) = some (ci, w)) (h8 : ci < 8) (hk : am_kind (n : Int) = (0, ci)) (hn0 : n0 ≤ n) (hc : n + 1 - n0 ≤ R.cells) (hs : am_sl (n + 1) - am_sl n0 ≤ R.slots) (kk : am_Kk p l e R s m args below meth c Q D dA b A k n0 ad n (pc + 3) (L) ((2, (n : Int)) :: st) (n + 1) (am_new μ (n : Int) (am_zero (0, ci)))) : W p l e R s m args below meth c H locs (n - n0) (am_sl n - am_sl n0) Q (F0 m pc cls ((st).map (am_cv b ad))) := by
  obtain ⟨hx, hb, hml, hown, hts, hXs, -⟩ := hF
  have hl : am_len (am_kind (n : Int)) = am_N ci := by rw [hk]; rfl
  have hsl : am_sl (n + 1) = am_sl n + am_N ci := by show am_sl n + am_len (am_kind (n : Int)) = _; rw [hl]
  have hm := am_sl_mono hn0
  obtain ⟨hcl, hins, hin, hty⟩ := am_clsv h8
  have hw := of_decide_eq_true (List.all_eq_true.mp am_v_nls0 _ (am_lookup ht))
  dsimp only at hw
  rw [if_neg (by omega), if_neg (by omega)] at hw
  refine va_new (fs := (List.range (am_N ci)).map (fun (j : Nat) => am_cv b ad (am_ft ci j, am_zero (0, ci) (j : Int)))) hx hb hts hin (am_tyo ci) (fun j hj => (hty j hj).1) hown (hts _ (am_mem hw rfl)) (hts _ hins) (hts _ (am_v_ini (by omega))) hH.1 hH.2.1 hH.2.2.1 hH.2.2.2.1 hH.2.2.2.2.2 hcl (fun j hj => ?_) (by omega) (by omega) hd (fun q H1 hP hD hS => ?_)
  · unfold vp_V
    rw [List.getD_eq_getElem?_getD, am_fs_get (f := am_zero (0, ci)) hj]
    exact am_zero_v h8 hj
  · refine am_alloc hH hL hLo hso hn0 hl (fun j => by rw [hk]; exact am_zero_ok _ _ j) (fun ad' _ _ => ?_) hP hD hS kk
    rw [hk, am_c_obj]
    congr 2
    refine List.map_congr_left (fun j hj => ?_)
    have hj := List.mem_range.mp hj
    rw [← am_zero_v h8 hj, ← am_zero_v h8 hj]
theorem am_o_oinit {idx w : Nat} {x : Int} (hF : am_F p R s m args meth c k) (hH : am_H D dA b A s ad n μ H locs) (hL : am_L b ad L cls (am_ml k)) (hLo : am_oks n L)  (hso : am_oks n ((2, x) :: st)) (hd : decode (am_by k) pc = .ok (.invokespecial idx, 3)) (ht : am_ois.lookup (am_cl k, idx) = some w) (hx0 : 0 ≤ x) (hcat : am_cats st ≤ 8) (hfr1 : 1 ≤ am_fr k) (hlo1 : 20 ≤ am_lo k) (kk : am_Kk p l e R s m args below meth c Q D dA b A k n0 ad n (pc + 3) (L) (st) (n) (μ)) : W p l e R s m args below meth c H locs (n - n0) (am_sl n - am_sl n0) Q (F0 m pc cls (((2, x) :: st).map (am_cv b ad))) := by
  obtain ⟨hx, hb, hml, hown, hts, hXs, hfr, hlo, -⟩ := hF
  have hw := of_decide_eq_true (List.all_eq_true.mp am_v_ois0 _ (am_lookup ht))
  have h1 := am_kk0 kk hH hL hLo (am_oks_tail hso)
  rw [List.map_cons, am_cv2p b ad hx0]
  refine W.objInit hx hb hown (hts _ (am_mem hw rfl)) (hts _ (am_mem am_v_obj.1 rfl)) (hts _ (am_mem am_v_obj.2 rfl)) rfl (hL.1.trans hml.symm) rfl hd (by omega) ?_ h1
  have h2 : ((st.map (am_cv b ad)).map fun v => v.category).sum ≤ 8 := by rw [am_cats_cv]; exact hcat
  have h3 := lv_room (m := m) (pc := pc) (ls := cls) (rest := .ref (ad x.toNat) :: st.map (am_cv b ad)) h2
  omega
theorem am_mtw {o idx f w : Nat} (ht : am_mts.lookup (o, idx) = some (f, w)) : Cond.methodLink (am_cn o) idx (if f = 0 then Lib.Math.abs.name else if f = 1 then Lib.Math.max.name else if f = 2 then Lib.Math.min.name else Lib.MathLoose.min_long.x) ∈ am_tb := am_mem (of_decide_eq_true (List.all_eq_true.mp am_v_mts0 _ (am_lookup ht))) rfl
theorem am_o_abs {idx w : Nat} {x : Int} (hF : am_F p R s m args meth c k) (hH : am_H D dA b A s ad n μ H locs) (hL : am_L b ad L cls (am_ml k)) (hLo : am_oks n L)  (hso : am_oks n ((0, x) :: st)) (hd : decode (am_by k) pc = .ok (.invokestatic idx, 3)) (ht : am_mts.lookup (am_cl k, idx) = some (0, w)) (hcat : am_cats st ≤ 8) (hfr1 : 1 ≤ am_fr k) (hlo1 : 23 ≤ am_lo k) (hc : n - n0 ≤ R.cells) (hs : am_sl n - am_sl n0 ≤ R.slots) (kk : am_Kk p l e R s m args below meth c Q D dA b A k n0 ad n (pc + 3) (L) ((0, am_abs x) :: st) (n) (μ)) : W p l e R s m args below meth c H locs (n - n0) (am_sl n - am_sl n0) Q (F0 m pc cls (((0, x) :: st).map (am_cv b ad))) := by
  obtain ⟨hx, hb, hml, hown, hts, hXs, hfr, hlo, -⟩ := hF
  have hw := am_mtw ht
  have hx32 : -2147483648 ≤ x ∧ x < 2147483648 := am_oks_head hso
  have h2 : ((st.map (am_cv b ad)).map fun v => v.category).sum ≤ 8 := by rw [am_cats_cv]; exact hcat
  have h1 := am_kk0 kk hH hL hLo (am_oks_cons (by unfold am_abs; split; exact hx32; exact am_w32_ok n _) (am_oks_tail hso))
  refine va_mabs hx hb (hml.trans hL.1.symm) hown (hts _ hw) (hts _ (am_mem am_v_math.2.1 rfl)) (hts _ (am_v_ini (o := 9) (by decide))) (hts _ (am_mem am_v_mathc.1 rfl)) (by omega) (by omega) hc hs hd ?_
  rw [List.map_cons, am_cv0] at h1
  have e : Int32.ofInt (am_abs x) = if 0 ≤ Int32.ofInt x then Int32.ofInt x else 0 - Int32.ofInt x := by
    unfold am_abs
    have h9 : (0 : Int32) ≤ Int32.ofInt x ↔ 0 ≤ x := am_le32 (x := 0) (by decide) hx32
    by_cases h : 0 ≤ x
    · rw [if_pos h, if_pos (h9.mpr h)]
    · rw [if_neg h, if_neg (fun z => h (h9.mp z)), am_w32_of, Int32.ofInt_neg, Int32.zero_sub]
  rw [e] at h1
  exact h1
theorem am_o_max {idx w : Nat} {x y : Int} (hF : am_F p R s m args meth c k) (hH : am_H D dA b A s ad n μ H locs) (hL : am_L b ad L cls (am_ml k)) (hLo : am_oks n L)  (hso : am_oks n ((0, y) :: (0, x) :: st)) (hd : decode (am_by k) pc = .ok (.invokestatic idx, 3)) (ht : am_mts.lookup (am_cl k, idx) = some (1, w)) (hcat : am_cats st ≤ 8) (hfr1 : 1 ≤ am_fr k) (hlo1 : 23 ≤ am_lo k) (hc : n - n0 ≤ R.cells) (hs : am_sl n - am_sl n0 ≤ R.slots) (kk : am_Kk p l e R s m args below meth c Q D dA b A k n0 ad n (pc + 3) (L) ((0, max x y) :: st) (n) (μ)) : W p l e R s m args below meth c H locs (n - n0) (am_sl n - am_sl n0) Q (F0 m pc cls (((0, y) :: (0, x) :: st).map (am_cv b ad))) := by
  obtain ⟨hx, hb, hml, hown, hts, hXs, hfr, hlo, -⟩ := hF
  have hw := am_mtw ht
  have hx32 : -2147483648 ≤ x ∧ x < 2147483648 := am_oks_head (am_oks_tail hso)
  have hy32 : -2147483648 ≤ y ∧ y < 2147483648 := am_oks_head hso
  have h2 : ((st.map (am_cv b ad)).map fun v => v.category).sum ≤ 8 := by rw [am_cats_cv]; exact hcat
  have h1 := am_kk0 kk hH hL hLo (am_oks_cons (⟨by show _ ≤ max x y; omega, by show max x y < _; omega⟩) (am_oks_tail (am_oks_tail hso)))
  refine va_mmax hx hb (hml.trans hL.1.symm) hown (hts _ hw) (hts _ (am_mem am_v_math.2.2.1 rfl)) (hts _ (am_v_ini (o := 9) (by decide))) (hts _ (am_mem am_v_mathc.2.1 rfl)) (by omega) (by omega) hc hs hd ?_
  rw [List.map_cons, am_cv0] at h1
  have e : Int32.ofInt (max x y) = if Int32.ofInt x < Int32.ofInt y then Int32.ofInt y else Int32.ofInt x := by
    have h9 := am_lt32 (x := x) (y := y) hx32 hy32
    by_cases h : x < y
    · rw [if_pos (h9.mpr h)]
      congr 1
      omega
    · rw [if_neg (fun z => h (h9.mp z))]
      congr 1
      omega
  rw [e] at h1
  exact h1
theorem am_o_min {idx w : Nat} {x y : Int} (hF : am_F p R s m args meth c k) (hH : am_H D dA b A s ad n μ H locs) (hL : am_L b ad L cls (am_ml k)) (hLo : am_oks n L)  (hso : am_oks n ((0, y) :: (0, x) :: st)) (hd : decode (am_by k) pc = .ok (.invokestatic idx, 3)) (ht : am_mts.lookup (am_cl k, idx) = some (2, w)) (hcat : am_cats st ≤ 8) (hfr1 : 1 ≤ am_fr k) (hlo1 : 23 ≤ am_lo k) (hc : n - n0 ≤ R.cells) (hs : am_sl n - am_sl n0 ≤ R.slots) (kk : am_Kk p l e R s m args below meth c Q D dA b A k n0 ad n (pc + 3) (L) ((0, min x y) :: st) (n) (μ)) : W p l e R s m args below meth c H locs (n - n0) (am_sl n - am_sl n0) Q (F0 m pc cls (((0, y) :: (0, x) :: st).map (am_cv b ad))) := by
  obtain ⟨hx, hb, hml, hown, hts, hXs, hfr, hlo, -⟩ := hF
  have hw := am_mtw ht
  have hx32 : -2147483648 ≤ x ∧ x < 2147483648 := am_oks_head (am_oks_tail hso)
  have hy32 : -2147483648 ≤ y ∧ y < 2147483648 := am_oks_head hso
  have h2 : ((st.map (am_cv b ad)).map fun v => v.category).sum ≤ 8 := by rw [am_cats_cv]; exact hcat
  have h1 := am_kk0 kk hH hL hLo (am_oks_cons (⟨by show _ ≤ min x y; omega, by show min x y < _; omega⟩) (am_oks_tail (am_oks_tail hso)))
  refine va_mmin hx hb (hml.trans hL.1.symm) hown (hts _ hw) (hts _ (am_mem am_v_math.2.2.2.1 rfl)) (hts _ (am_v_ini (o := 9) (by decide))) (hts _ (am_mem am_v_mathc.2.2.1 rfl)) (by omega) (by omega) hc hs hd ?_
  rw [List.map_cons, am_cv0] at h1
  have e : Int32.ofInt (min x y) = if Int32.ofInt y < Int32.ofInt x then Int32.ofInt y else Int32.ofInt x := by
    have h9 := am_lt32 (x := y) (y := x) hy32 hx32
    by_cases h : y < x
    · rw [if_pos (h9.mpr h)]
      congr 1
      omega
    · rw [if_neg (fun z => h (h9.mp z))]
      congr 1
      omega
  rw [e] at h1
  exact h1
theorem am_o_minl {idx w : Nat} {x y : Int} (hF : am_F p R s m args meth c k) (hH : am_H D dA b A s ad n μ H locs) (hL : am_L b ad L cls (am_ml k)) (hLo : am_oks n L)  (hso : am_oks n ((1, y) :: (1, x) :: st)) (hd : decode (am_by k) pc = .ok (.invokestatic idx, 3)) (ht : am_mts.lookup (am_cl k, idx) = some (3, w)) (hcat : am_cats st ≤ 8) (hfr1 : 1 ≤ am_fr k) (hlo1 : 23 ≤ am_lo k) (hc : n - n0 ≤ R.cells) (hs : am_sl n - am_sl n0 ≤ R.slots) (kk : am_Kk p l e R s m args below meth c Q D dA b A k n0 ad n (pc + 3) (L) ((1, min x y) :: st) (n) (μ)) : W p l e R s m args below meth c H locs (n - n0) (am_sl n - am_sl n0) Q (F0 m pc cls (((1, y) :: (1, x) :: st).map (am_cv b ad))) := by
  obtain ⟨hx, hb, hml, hown, hts, hXs, hfr, hlo, -⟩ := hF
  have hw := am_mtw ht
  have hx32 : -9223372036854775808 ≤ x ∧ x < 9223372036854775808 := am_oks_head (am_oks_tail hso)
  have hy32 : -9223372036854775808 ≤ y ∧ y < 9223372036854775808 := am_oks_head hso
  have h2 : ((st.map (am_cv b ad)).map fun v => v.category).sum ≤ 8 := by rw [am_cats_cv]; exact hcat
  have h1 := am_kk0 kk hH hL hLo (am_oks_cons (⟨by show _ ≤ min x y; omega, by show min x y < _; omega⟩) (am_oks_tail (am_oks_tail hso)))
  refine va_mmin_long hx hb (hml.trans hL.1.symm) hown (hts _ hw) (hts _ (am_mem am_v_math.2.2.2.2 rfl)) (hts _ (am_v_ini (o := 9) (by decide))) (hts _ (am_mem am_v_mathc.2.2.2 rfl)) (by omega) (by omega) hc hs hd ?_
  rw [List.map_cons, am_cv1] at h1
  have e : Int64.ofInt (min x y) = if Int64.ofInt y < Int64.ofInt x then Int64.ofInt y else Int64.ofInt x := by
    have h9 := am_lt64 (x := y) (y := x) hy32 hx32
    by_cases h : y < x
    · rw [if_pos (h9.mpr h)]
      congr 1
      omega
    · rw [if_neg (fun z => h (h9.mp z))]
      congr 1
      omega
  rw [e] at h1
  exact h1
end

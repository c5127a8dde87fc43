section
variable {p : Program} {l : Launch} {e : Env} {R : Room} {s : State} {m : MethodId} {args : Array Value} {below : List Frame} {meth : Method} {c : Code} {Q : State → Prop} {D : va_G} {dA : Nat → ClassId} {b : Nat} {A : Nat → Prop} {k n0 : Nat} {ad : Nat → Nat} {n pc : Nat} {L st : List am_V} {μ : am_M} {cls : Array Slot} {H : Heap} {locs : List Loc} {sc : am_Sc} {pc' : Nat} {L' st' : List am_V} {n' : Nat} {μ' : am_M}
theorem am_c_obj {ci : Nat} (f : Int → Int) : am_cell dA b ad (0, ci) f = .inr (ci, (List.range (am_N ci)).map (fun (j : Nat) => am_cv b ad (am_ft ci j, f (j : Int)))) := rfl
theorem am_c_int {z : Nat} (f : Int → Int) : am_cell dA b ad (1, z) f = .inl (dA 0, z, .inl (fun j => Int32.ofInt (f (j : Int)))) := rfl
theorem am_c_long {z : Nat} (f : Int → Int) : am_cell dA b ad (2, z) f = .inl (dA 1, z, .inr (.inl (fun j => Int64.ofInt (f (j : Int))))) := rfl
theorem am_c_note {z : Nat} (f : Int → Int) : am_cell dA b ad (3, z) f = .inl (dA 2, z, .inr (.inr (.inr (.inr (fun j => am_rf ad (f (j : Int))))))) := rfl
theorem am_c_ii {z : Nat} (f : Int → Int) : am_cell dA b ad (4, z) f = .inl (dA 3, z, .inr (.inr (.inr (.inr (fun j => am_rf ad (f (j : Int))))))) := rfl
/-- a cell of the world, by its number -/
theorem am_at {x : Int} {q : Nat × Nat} (hx : x < (n : Int)) (h0 : 0 ≤ x) (hq : am_kind x = q) : (am_W dA b ad n μ)[x.toNat]? = some (ad x.toNat, am_cell dA b ad q (μ x)) := by
  have h := am_W_get (dA := dA) (b := b) (ad := ad) (μ := μ) (show x.toNat < n by omega)
  rw [show ((x.toNat : Nat) : Int) = x by omega, hq] at h
  exact h
theorem am_fld {o idx : Nat} {q : Nat × Nat} {w : Nat} (h : am_fls.lookup (o, idx) = some (q, w)) : q.1 < 8 ∧ q.2 < am_N q.1 ∧ Cond.fieldLink (am_cn o) idx (am_T q.1 q.2).1 (am_T q.1 q.2).2.1 (am_T q.1 q.2).2.2.1 ∈ am_tb := by
  have h1 := List.all_eq_true.mp am_v_fls0 _ (am_lookup h)
  simp only [Bool.and_eq_true, decide_eq_true_eq] at h1
  exact ⟨h1.1.1, h1.1.2, am_mem h1.2 rfl⟩
theorem am_clsv {ci : Nat} (h : ci < 8) : vwCl[ci]? = some (am_cn ci, am_T ci, am_N ci) ∧ Cond.instantiable (am_cn ci) (am_N ci) ∈ am_tb ∧ (∀ w ∈ u_ws (am_cn ci) (am_T ci) (am_N ci), w ∈ am_tb) ∧ ∀ j, j < am_N ci → parseFieldDescriptor (am_T ci j).2.2.1 = some (am_tyo ci j) ∧ (am_T ci j).2.2.2 = (am_fs ci j).2 ∧ (am_T ci j).1 = am_cn ci ∧ am_tyS (am_tyo ci j) = (am_fs ci j).1 := by
  have h1 := am_all am_v_cls0 h
  have h2 := am_all am_v_uws0 h
  have h3 := am_all am_v_tyS0 h
  simp only [Bool.and_eq_true, decide_eq_true_eq] at h1
  obtain ⟨⟨⟨e1, e2⟩, e3⟩, e4⟩ := h1
  refine ⟨?_, am_mem e3 rfl, fun w hw => ?_, fun j hj => ?_⟩
  · rw [← e1, ← e2]
    have hl : ci < vwCl.length := h
    unfold am_T am_cT
    rw [List.getD_eq_getElem?_getD, List.getElem?_eq_getElem hl]
    rfl
  · have h4 := List.all_eq_true.mp h2 w hw
    simp only [Bool.and_eq_true, decide_eq_true_eq] at h4
    exact List.mem_filter.mpr h4
  · have h5 := am_all e4 hj
    have h6 := am_all h3 hj
    simp only [Bool.and_eq_true, decide_eq_true_eq] at h5 h6
    exact ⟨h5.1.1, h5.1.2, h5.2, h6⟩
theorem am_fs_get {ci j : Nat} {f : Int → Int} (hj : j < am_N ci) : ((List.range (am_N ci)).map (fun (j : Nat) => am_cv b ad (am_ft ci j, f (j : Int))))[j]? = some (am_cv b ad (am_ft ci j, f (j : Int))) := by
  simp [hj]
theorem am_o_get {idx w : Nat} {q : Nat × Nat} {x : Int} (hF : am_F p R s m args meth c k) (hH : am_H D dA b A s ad n μ H locs) (hL : am_L b ad L cls (am_ml k)) (hLo : am_oks n L)  (hso : am_oks n ((2, x) :: st)) (hd : decode (am_by k) pc = .ok (.getfield idx, 3)) (ht : am_fls.lookup (am_cl k, idx) = some (q, w)) (hk : am_kind x = (0, q.1)) (kk : am_Kk p l e R s m args below meth c Q D dA b A k n0 ad n (pc + 3) (L) ((am_ft q.1 q.2, μ x (q.2 : Int)) :: st) (n) (μ)) : W p l e R s m args below meth c H locs (n - n0) (am_sl n - am_sl n0) Q (F0 m pc cls (((2, x) :: st).map (am_cv b ad))) := by
  obtain ⟨hx, hb, hml, hown, hts, -⟩ := hF
  obtain ⟨h8, hN, hw⟩ := am_fld ht
  obtain ⟨hc, -, hin, -⟩ := am_clsv h8
  have h0 : 0 ≤ x := am_kind_pos hk (show (0 : Nat) ≠ 9 by decide)
  have hlt : x < (n : Int) := am_oks_head hso
  have hat := am_at (dA := dA) (b := b) (ad := ad) (μ := μ) hlt h0 hk
  rw [am_c_obj] at hat
  have h1 := am_kk0 kk hH hL hLo (am_oks_cons (by have := hH.2.2.2.2.1 x.toNat (by omega) (q.2 : Int); rw [show ((x.toNat : Nat) : Int) = x by omega, hk] at this; exact this) (am_oks_tail hso))
  rw [List.map_cons, am_cv2p b ad h0]
  exact va_get hx hb hts hin hown hH.1 hH.2.1 x.toNat hat hc q.2 hN (hts _ hw) (fun _ h9 => h9) (am_fs_get hN) hd h1
theorem am_put_cell {ci j : Nat} {x y : Int} (hx : am_kind x = (0, ci)) (hj : j < am_N ci) : am_cell dA b ad (0, ci) (am_set μ x (j : Int) y x) = .inr (ci, ((List.range (am_N ci)).map (fun (j : Nat) => am_cv b ad (am_ft ci j, μ x (j : Int)))).set j (am_cv b ad (am_ft ci j, y))) := by
  rw [am_c_obj]
  congr 2
  apply List.ext_getElem?
  intro i
  rw [List.getElem?_set]
  by_cases e : j = i
  · subst e
    simp [hj, am_set]
  · rw [if_neg e]
    simp only [List.getElem?_map]
    cases h : (List.range (am_N ci))[i]? with
    | none => rfl
    | some i' =>
      have : i' = i := by
        have := List.getElem?_eq_some_iff.mp h
        obtain ⟨h1, h2⟩ := this
        rw [List.getElem_range] at h2
        exact h2.symm
      subst this
      simp only [Option.map_some]
      unfold am_set
      rw [if_neg (by omega)]
theorem am_set_ne {x y j : Int} : ∀ a : Int, a ≠ x → am_set μ x j y a = μ a := fun a ha => funext fun z => by
  unfold am_set
  rw [if_neg (fun h => ha h.1)]
theorem am_v_fs3 : (List.range 8).all (fun ci => (List.range (am_N ci)).all (fun j => decide ((am_fs ci j).1 ≤ 3))) = true := by decide +kernel
theorem am_fit {ci j : Nat} (h8 : ci < 8) (hj : j < am_N ci) {y : Int} (hb : (am_fs ci j).1 = 3 → y = 0 ∨ y = 1) : narrow (am_tyo ci j) (am_cv b ad (am_ft ci j, y)) = am_cv b ad (am_ft ci j, y) ∧ fits (am_tyo ci j) (am_cv b ad (am_ft ci j, y)) = true := by
  have h := ((am_clsv h8).2.2.2 j hj).2.2.2
  have h3 : (am_fs ci j).1 ≤ 3 := of_decide_eq_true (am_all (am_all am_v_fs3 h8) hj)
  unfold am_ft
  generalize am_tyo ci j = ty at h ⊢
  generalize (am_fs ci j).1 = t at h hb h3 ⊢
  subst h
  cases ty with
  | int => exact ⟨rfl, rfl⟩
  | long => exact ⟨rfl, rfl⟩
  | boolean =>
    rcases hb rfl with rfl | rfl
    · exact ⟨rfl, rfl⟩
    · exact ⟨rfl, rfl⟩
  | object C =>
    show narrow (.object C) (va_rf (am_rf ad y)) = va_rf (am_rf ad y) ∧ fits (.object C) (va_rf (am_rf ad y)) = true
    cases am_rf ad y <;> exact ⟨rfl, rfl⟩
  | array C =>
    show narrow (.array C) (va_rf (am_rf ad y)) = va_rf (am_rf ad y) ∧ fits (.array C) (va_rf (am_rf ad y)) = true
    cases am_rf ad y <;> exact ⟨rfl, rfl⟩
  | _ => exact absurd h3 (by decide)
theorem am_o_put {idx w : Nat} {q : Nat × Nat} {x y : Int} (hF : am_F p R s m args meth c k) (hH : am_H D dA b A s ad n μ H locs) (hL : am_L b ad L cls (am_ml k)) (hLo : am_oks n L)  (hso : am_oks n ((am_ft q.1 q.2, y) :: (2, x) :: st)) (hd : decode (am_by k) pc = .ok (.putfield idx, 3)) (ht : am_fls.lookup (am_cl k, idx) = some (q, w)) (hk : am_kind x = (0, q.1)) (hfin : (am_fs q.1 q.2).2 = true → am_kd k = 2 ∧ am_cl k = q.1) (hbo : (am_fs q.1 q.2).1 = 3 → y = 0 ∨ y = 1) (kk : am_Kk p l e R s m args below meth c Q D dA b A k n0 ad n (pc + 3) (L) (st) (n) (am_set μ x (q.2 : Int) y)) : W p l e R s m args below meth c H locs (n - n0) (am_sl n - am_sl n0) Q (F0 m pc cls (((am_ft q.1 q.2, y) :: (2, x) :: st).map (am_cv b ad))) := by
  obtain ⟨hx, hb, hml, hown, hts, hX, hfr, hlo, hini, -⟩ := hF
  obtain ⟨h8, hN, hw⟩ := am_fld ht
  obtain ⟨hc, -, hin, hty⟩ := am_clsv h8
  have h0 : 0 ≤ x := am_kind_pos hk (show (0 : Nat) ≠ 9 by decide)
  have hlt : x < (n : Int) := am_oks_head (am_oks_tail hso)
  have hat := am_at (dA := dA) (b := b) (ad := ad) (μ := μ) hlt h0 hk
  rw [am_c_obj] at hat
  have hfit := am_fit (b := b) (ad := ad) h8 hN hbo
  have hupd := am_W_upd (dA := dA) (b := b) (ad := ad) (μ := μ) (μ' := am_set μ x (q.2 : Int) y) (i := x.toNat) (n := n) (c := .inr (q.1, ((List.range (am_N q.1)).map (fun (j : Nat) => am_cv b ad (am_ft q.1 j, μ x (j : Int)))).set q.2 (am_cv b ad (am_ft q.1 q.2, y)))) (by omega) (by rw [show ((x.toNat : Nat) : Int) = x by omega]; exact am_set_ne) (by rw [show ((x.toNat : Nat) : Int) = x by omega, hk]; exact am_put_cell hk hN)
  have hG' : am_G n (am_set μ x (q.2 : Int) y) := by
    have := am_G_set (a := x.toNat) (j := (q.2 : Int)) (x := y) hH.2.2.2.2.1 (by rw [show ((x.toNat : Nat) : Int) = x by omega, hk]; exact am_oks_head hso)
    rw [show ((x.toNat : Nat) : Int) = x by omega] at this
    exact this
  have hk2 : ∀ (H1 : Heap) (locs1 : List Loc), va_P D vwCl ((am_W dA b ad n μ).set x.toNat (ad x.toNat, .inr (q.1, ((List.range (am_N q.1)).map (fun (j : Nat) => am_cv b ad (am_ft q.1 j, μ x (j : Int)))).set q.2 (am_cv b ad (am_ft q.1 q.2, y))))) H1 → va_D A ((am_W dA b ad n μ).set x.toNat (ad x.toNat, .inr (q.1, ((List.range (am_N q.1)).map (fun (j : Nat) => am_cv b ad (am_ft q.1 j, μ x (j : Int)))).set q.2 (am_cv b ad (am_ft q.1 q.2, y))))) → va_S A s.heap H1 locs1 → W p l e R s m args below meth c H1 locs1 (n - n0) (am_sl n - am_sl n0) Q (F0 m (pc + 3) cls (st.map (am_cv b ad))) := by
    intro H1 locs1 hP hD hS
    rw [hupd] at hP hD
    exact kk ad cls H1 locs1 (fun _ _ => rfl) ⟨hH.1, hP, hD, hS, hG', hH.2.2.2.2.2⟩ hL hLo (am_oks_tail (am_oks_tail hso))
  rw [List.map_cons, List.map_cons, am_cv2p b ad h0]
  cases hf : (am_fs q.1 q.2).2 with
  | false => exact va_put hx hb hts hin (am_tyo q.1) (fun j hj => (hty j hj).1) (am_v_nm0 q.1 h8) hown hH.1 hH.2.1 hH.2.2.1 hH.2.2.2.1 x.toNat hat hc q.2 hN (hts _ hw) (fun _ h9 => h9) ((hty q.2 hN).2.1.trans hf) (hty q.2 hN).1 hfit.1 hfit.2 (by simp [hN]) hd hk2
  | true =>
    obtain ⟨z1, z2⟩ := hfin hf
    exact va_putF hx hb hts hin (am_tyo q.1) (fun j hj => (hty j hj).1) (am_v_nm0 q.1 h8) hown hH.1 hH.2.1 hH.2.2.1 hH.2.2.2.1 x.toNat hat hc q.2 hN (hts _ hw) (fun _ h9 => h9) ((hty q.2 hN).2.1.trans hf) (hini z1) ((hty q.2 hN).2.2.1.trans (by rw [z2])) (hty q.2 hN).1 hfit.1 hfit.2 (by simp [hN]) hd hk2
end

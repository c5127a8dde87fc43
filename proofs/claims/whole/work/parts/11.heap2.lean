section
variable {p : Program} {l : Launch} {e : Env} {R : Room} {s : State} {m : MethodId} {args : Array Value} {below : List Frame} {meth : Method} {c : Code} {Q : State → Prop} {D : va_G} {dA : Nat → ClassId} {b : Nat} {A : Nat → Prop} {k n0 : Nat} {ad : Nat → Nat} {n pc : Nat} {L st : List am_V} {μ : am_M} {cls : Array Slot} {H : Heap} {locs : List Loc} {sc : am_Sc} {pc' : Nat} {L' st' : List am_V} {n' : Nat} {μ' : am_M}
theorem am_tn {x : Int} (h : 0 ≤ x) : ((x.toNat : Nat) : Int) = x := by omega
theorem am_elem {x j : Int} {q : Nat × Nat} (hG : am_G n μ) (h0 : 0 ≤ x) (hx : x < (n : Int)) (hq : am_kind x = q) : am_ok n (am_tag q j.toNat, μ x j) := by
  have := hG x.toNat (by omega) j
  rw [am_tn h0, hq] at this
  exact this
theorem va_alda {C : FieldType} (hexec : p.tables.exec = Jvm.exec) {cc : ByteArray} (hb : c.code = cc) {cl : List vw_C} {tys : List (ClassId × FieldType)} {ws : va_W} {a : Nat} {ls : Array Slot} {rest : List Value} {cells slots : Nat} (hK : va_K D cl tys s) (hP : va_P D cl ws H) (q0 t0 : Nat) {cA : ClassId} {n : Nat} {f : Nat → Option Nat} (ha : ws[q0]? = some (a, .inl (cA, n, .inr (.inr (.inr (.inr f)))))) (ht : tys[t0]? = some (cA, .array C)) {i : Int32} (hin : vp_in i n) (hdg : decode cc pc = .ok (.aaload, 1))
    (kk : W p l e R s m args below meth c H locs cells slots Q (F0 m (pc + 1) ls (va_rf (f i.toNatClampNeg) :: rest))) : W p l e R s m args below meth c H locs cells slots Q (F0 m pc ls (.int i :: .ref a :: rest)) := by
  have hlt : i.toNatClampNeg < n := Nat.not_le.mp fun q => hin (Or.inr q)
  exact W.aald (v := va_rf (f i.toNatClampNeg)) (ty := .array C) hexec hb (hP q0 _ ha) ((hK.2 t0 _ ht).1 n (fun j => va_rf (f j))) rfl (fun q => by cases q) (by show ¬ (i < 0 ∨ (arrV _ _ _).slots.size ≤ _); rw [arrV_size]; exact hin) (by show (arrV _ _ _).slots[_]? = _; rw [arrV_read _ _ hlt]) rfl rfl hdg kk
theorem am_o_iald {x j : Int} {z : Nat} (hF : am_F p R s m args meth c k) (hH : am_H D dA b A s ad n μ H locs) (hL : am_L b ad L cls (am_ml k)) (hLo : am_oks n L)  (hso : am_oks n ((0, j) :: (2, x) :: st)) (hd : decode (am_by k) pc = .ok (.iaload, 1)) (hk : am_kind x = (1, z)) (hj0 : 0 ≤ j) (hj : j < (z : Int)) (kk : am_Kk p l e R s m args below meth c Q D dA b A k n0 ad n (pc + 1) (L) ((0, μ x j) :: st) (n) (μ)) : W p l e R s m args below meth c H locs (n - n0) (am_sl n - am_sl n0) Q (F0 m pc cls (((0, j) :: (2, x) :: st).map (am_cv b ad))) := by
  obtain ⟨hx, hb, hml, hown, hts, -⟩ := hF
  have h0 : 0 ≤ x := am_kind_pos hk (show (1 : Nat) ≠ 9 by decide)
  have hlt : x < (n : Int) := am_oks_head (am_oks_tail hso)
  have hj32 : -2147483648 ≤ j ∧ j < 2147483648 := am_oks_head hso
  have hat := am_at (dA := dA) (b := b) (ad := ad) (μ := μ) hlt h0 hk
  rw [am_c_int] at hat
  have h1 := am_kk0 kk hH hL hLo (am_oks_cons (am_elem (j := j) hH.2.2.2.2.1 h0 hlt hk) (am_oks_tail (am_oks_tail hso)))
  rw [List.map_cons, List.map_cons, am_cv2p b ad h0]
  refine va_iald hx hb hH.1 hH.2.1 x.toNat 0 hat rfl (am_in hj0 hj32.2 hj) hd ?_
  rw [am_clamp hj0 hj32.2, am_tn hj0]
  exact h1
theorem am_o_lald {x j : Int} {z : Nat} (hF : am_F p R s m args meth c k) (hH : am_H D dA b A s ad n μ H locs) (hL : am_L b ad L cls (am_ml k)) (hLo : am_oks n L)  (hso : am_oks n ((0, j) :: (2, x) :: st)) (hd : decode (am_by k) pc = .ok (.laload, 1)) (hk : am_kind x = (2, z)) (hj0 : 0 ≤ j) (hj : j < (z : Int)) (kk : am_Kk p l e R s m args below meth c Q D dA b A k n0 ad n (pc + 1) (L) ((1, μ x j) :: st) (n) (μ)) : W p l e R s m args below meth c H locs (n - n0) (am_sl n - am_sl n0) Q (F0 m pc cls (((0, j) :: (2, x) :: st).map (am_cv b ad))) := by
  obtain ⟨hx, hb, hml, hown, hts, -⟩ := hF
  have h0 : 0 ≤ x := am_kind_pos hk (show (2 : Nat) ≠ 9 by decide)
  have hlt : x < (n : Int) := am_oks_head (am_oks_tail hso)
  have hj32 : -2147483648 ≤ j ∧ j < 2147483648 := am_oks_head hso
  have hat := am_at (dA := dA) (b := b) (ad := ad) (μ := μ) hlt h0 hk
  rw [am_c_long] at hat
  have h1 := am_kk0 kk hH hL hLo (am_oks_cons (am_elem (j := j) hH.2.2.2.2.1 h0 hlt hk) (am_oks_tail (am_oks_tail hso)))
  rw [List.map_cons, List.map_cons, am_cv2p b ad h0]
  refine va_lald hx hb hH.1 hH.2.1 x.toNat 1 hat rfl (am_in hj0 hj32.2 hj) hd ?_
  rw [am_clamp hj0 hj32.2, am_tn hj0]
  exact h1
theorem am_o_aald {x j : Int} {z : Nat} (hF : am_F p R s m args meth c k) (hH : am_H D dA b A s ad n μ H locs) (hL : am_L b ad L cls (am_ml k)) (hLo : am_oks n L)  (hso : am_oks n ((0, j) :: (2, x) :: st)) (hd : decode (am_by k) pc = .ok (.aaload, 1)) (hk : am_kind x = (3, z)) (hj0 : 0 ≤ j) (hj : j < (z : Int)) (kk : am_Kk p l e R s m args below meth c Q D dA b A k n0 ad n (pc + 1) (L) ((2, μ x j) :: st) (n) (μ)) : W p l e R s m args below meth c H locs (n - n0) (am_sl n - am_sl n0) Q (F0 m pc cls (((0, j) :: (2, x) :: st).map (am_cv b ad))) := by
  obtain ⟨hx, hb, hml, hown, hts, -⟩ := hF
  have h0 : 0 ≤ x := am_kind_pos hk (show (3 : Nat) ≠ 9 by decide)
  have hlt : x < (n : Int) := am_oks_head (am_oks_tail hso)
  have hj32 : -2147483648 ≤ j ∧ j < 2147483648 := am_oks_head hso
  have hat := am_at (dA := dA) (b := b) (ad := ad) (μ := μ) hlt h0 hk
  rw [am_c_note] at hat
  have h1 := am_kk0 kk hH hL hLo (am_oks_cons (am_elem (j := j) hH.2.2.2.2.1 h0 hlt hk) (am_oks_tail (am_oks_tail hso)))
  rw [List.map_cons, List.map_cons, am_cv2p b ad h0]
  refine va_aldq hx hb hH.1 hH.2.1 x.toNat 2 hat rfl (am_in hj0 hj32.2 hj) hd ?_
  rw [am_clamp hj0 hj32.2, am_tn hj0]
  exact h1
theorem am_o_ald4 {x j : Int} {z : Nat} (hF : am_F p R s m args meth c k) (hH : am_H D dA b A s ad n μ H locs) (hL : am_L b ad L cls (am_ml k)) (hLo : am_oks n L)  (hso : am_oks n ((0, j) :: (2, x) :: st)) (hd : decode (am_by k) pc = .ok (.aaload, 1)) (hk : am_kind x = (4, z)) (hj0 : 0 ≤ j) (hj : j < (z : Int)) (kk : am_Kk p l e R s m args below meth c Q D dA b A k n0 ad n (pc + 1) (L) ((2, μ x j) :: st) (n) (μ)) : W p l e R s m args below meth c H locs (n - n0) (am_sl n - am_sl n0) Q (F0 m pc cls (((0, j) :: (2, x) :: st).map (am_cv b ad))) := by
  obtain ⟨hx, hb, hml, hown, hts, -⟩ := hF
  have h0 : 0 ≤ x := am_kind_pos hk (show (4 : Nat) ≠ 9 by decide)
  have hlt : x < (n : Int) := am_oks_head (am_oks_tail hso)
  have hj32 : -2147483648 ≤ j ∧ j < 2147483648 := am_oks_head hso
  have hat := am_at (dA := dA) (b := b) (ad := ad) (μ := μ) hlt h0 hk
  rw [am_c_ii] at hat
  have h1 := am_kk0 kk hH hL hLo (am_oks_cons (am_elem (j := j) hH.2.2.2.2.1 h0 hlt hk) (am_oks_tail (am_oks_tail hso)))
  rw [List.map_cons, List.map_cons, am_cv2p b ad h0]
  refine va_alda hx hb hH.1 hH.2.1 x.toNat 3 hat rfl (am_in hj0 hj32.2 hj) hd ?_
  rw [am_clamp hj0 hj32.2, am_tn hj0]
  exact h1
theorem am_o_iast {x j y : Int} {z : Nat} (hF : am_F p R s m args meth c k) (hH : am_H D dA b A s ad n μ H locs) (hL : am_L b ad L cls (am_ml k)) (hLo : am_oks n L)  (hso : am_oks n ((0, y) :: (0, j) :: (2, x) :: st)) (hd : decode (am_by k) pc = .ok (.iastore, 1)) (hk : am_kind x = (1, z)) (hj0 : 0 ≤ j) (hj : j < (z : Int)) (kk : am_Kk p l e R s m args below meth c Q D dA b A k n0 ad n (pc + 1) (L) (st) (n) (am_set μ x j y)) : W p l e R s m args below meth c H locs (n - n0) (am_sl n - am_sl n0) Q (F0 m pc cls (((0, y) :: (0, j) :: (2, x) :: st).map (am_cv b ad))) := by
  obtain ⟨hx, hb, hml, hown, hts, -⟩ := hF
  have h0 : 0 ≤ x := am_kind_pos hk (show (1 : Nat) ≠ 9 by decide)
  have hlt : x < (n : Int) := am_oks_head (am_oks_tail (am_oks_tail hso))
  have hj32 : -2147483648 ≤ j ∧ j < 2147483648 := am_oks_head (am_oks_tail hso)
  have hat := am_at (dA := dA) (b := b) (ad := ad) (μ := μ) hlt h0 hk
  rw [am_c_int] at hat
  have hupd := am_W_upd (dA := dA) (b := b) (ad := ad) (μ := μ) (μ' := am_set μ x j y) (i := x.toNat) (n := n) (c := .inl (dA 0, z, .inl (upd (fun i => Int32.ofInt (μ x (i : Int))) j.toNat (Int32.ofInt (y))))) (by omega) (by rw [am_tn h0]; exact am_set_ne) (by
    rw [am_tn h0, hk, am_c_int]
    have e : (fun i : Nat => Int32.ofInt (am_set μ x j y x (i : Int))) = upd (fun i => Int32.ofInt (μ x (i : Int))) j.toNat (Int32.ofInt (y)) := funext fun i => by
      unfold upd am_set
      by_cases e : i = j.toNat
      · subst e
        rw [am_tn hj0]
        simp
      · rw [if_neg e, if_neg (by omega)]
    rw [e])
  have hG' : am_G n (am_set μ x j y) := by
    have := am_G_set (a := x.toNat) (j := j) (x := y) hH.2.2.2.2.1 (by rw [am_tn h0, hk]; exact am_oks_head hso)
    rw [am_tn h0] at this
    exact this
  rw [List.map_cons, List.map_cons, List.map_cons, am_cv2p b ad h0]
  refine va_iast hx hb hH.1 hH.2.1 hH.2.2.1 hH.2.2.2.1 x.toNat 0 hat rfl (am_in hj0 hj32.2 hj) hd (fun H1 locs1 hP hD hS => ?_)
  rw [am_clamp hj0 hj32.2, hupd] at hP hD
  exact kk ad cls H1 locs1 (fun _ _ => rfl) ⟨hH.1, hP, hD, hS, hG', hH.2.2.2.2.2⟩ hL hLo (am_oks_tail (am_oks_tail (am_oks_tail hso)))
theorem am_o_last {x j y : Int} {z : Nat} (hF : am_F p R s m args meth c k) (hH : am_H D dA b A s ad n μ H locs) (hL : am_L b ad L cls (am_ml k)) (hLo : am_oks n L)  (hso : am_oks n ((1, y) :: (0, j) :: (2, x) :: st)) (hd : decode (am_by k) pc = .ok (.lastore, 1)) (hk : am_kind x = (2, z)) (hj0 : 0 ≤ j) (hj : j < (z : Int)) (kk : am_Kk p l e R s m args below meth c Q D dA b A k n0 ad n (pc + 1) (L) (st) (n) (am_set μ x j y)) : W p l e R s m args below meth c H locs (n - n0) (am_sl n - am_sl n0) Q (F0 m pc cls (((1, y) :: (0, j) :: (2, x) :: st).map (am_cv b ad))) := by
  obtain ⟨hx, hb, hml, hown, hts, -⟩ := hF
  have h0 : 0 ≤ x := am_kind_pos hk (show (2 : Nat) ≠ 9 by decide)
  have hlt : x < (n : Int) := am_oks_head (am_oks_tail (am_oks_tail hso))
  have hj32 : -2147483648 ≤ j ∧ j < 2147483648 := am_oks_head (am_oks_tail hso)
  have hat := am_at (dA := dA) (b := b) (ad := ad) (μ := μ) hlt h0 hk
  rw [am_c_long] at hat
  have hupd := am_W_upd (dA := dA) (b := b) (ad := ad) (μ := μ) (μ' := am_set μ x j y) (i := x.toNat) (n := n) (c := .inl (dA 1, z, .inr (.inl (vp_updL (fun i => Int64.ofInt (μ x (i : Int))) j.toNat (Int64.ofInt (y)))))) (by omega) (by rw [am_tn h0]; exact am_set_ne) (by
    rw [am_tn h0, hk, am_c_long]
    have e : (fun i : Nat => Int64.ofInt (am_set μ x j y x (i : Int))) = vp_updL (fun i => Int64.ofInt (μ x (i : Int))) j.toNat (Int64.ofInt (y)) := funext fun i => by
      unfold vp_updL am_set
      by_cases e : i = j.toNat
      · subst e
        rw [am_tn hj0]
        simp
      · rw [if_neg e, if_neg (by omega)]
    rw [e])
  have hG' : am_G n (am_set μ x j y) := by
    have := am_G_set (a := x.toNat) (j := j) (x := y) hH.2.2.2.2.1 (by rw [am_tn h0, hk]; exact am_oks_head hso)
    rw [am_tn h0] at this
    exact this
  rw [List.map_cons, List.map_cons, List.map_cons, am_cv2p b ad h0]
  refine va_last hx hb hH.1 hH.2.1 hH.2.2.1 hH.2.2.2.1 x.toNat 1 hat rfl (am_in hj0 hj32.2 hj) hd (fun H1 locs1 hP hD hS => ?_)
  rw [am_clamp hj0 hj32.2, hupd] at hP hD
  exact kk ad cls H1 locs1 (fun _ _ => rfl) ⟨hH.1, hP, hD, hS, hG', hH.2.2.2.2.2⟩ hL hLo (am_oks_tail (am_oks_tail (am_oks_tail hso)))
theorem am_o_aast {x j y : Int} {z : Nat} (hF : am_F p R s m args meth c k) (hH : am_H D dA b A s ad n μ H locs) (hL : am_L b ad L cls (am_ml k)) (hLo : am_oks n L)  (hso : am_oks n ((2, y) :: (0, j) :: (2, x) :: st)) (hd : decode (am_by k) pc = .ok (.aastore, 1)) (hk : am_kind x = (3, z)) (hy : am_kind y = (0, 3)) (hj0 : 0 ≤ j) (hj : j < (z : Int)) (kk : am_Kk p l e R s m args below meth c Q D dA b A k n0 ad n (pc + 1) (L) (st) (n) (am_set μ x j y)) : W p l e R s m args below meth c H locs (n - n0) (am_sl n - am_sl n0) Q (F0 m pc cls (((2, y) :: (0, j) :: (2, x) :: st).map (am_cv b ad))) := by
  obtain ⟨hx, hb, hml, hown, hts, -⟩ := hF
  have h0 : 0 ≤ x := am_kind_pos hk (show (3 : Nat) ≠ 9 by decide)
  have hy0 : 0 ≤ y := am_kind_pos hy (show (0 : Nat) ≠ 9 by decide)
  have hlt : x < (n : Int) := am_oks_head (am_oks_tail (am_oks_tail hso))
  have hylt : y < (n : Int) := am_oks_head hso
  have hj32 : -2147483648 ≤ j ∧ j < 2147483648 := am_oks_head (am_oks_tail hso)
  have hat := am_at (dA := dA) (b := b) (ad := ad) (μ := μ) hlt h0 hk
  have hyt := am_at (dA := dA) (b := b) (ad := ad) (μ := μ) hylt hy0 hy
  rw [am_c_note] at hat
  rw [am_c_obj] at hyt
  have hupd := am_W_upd (dA := dA) (b := b) (ad := ad) (μ := μ) (μ' := am_set μ x j y) (i := x.toNat) (n := n) (c := .inl (dA 2, z, .inr (.inr (.inr (.inr (va_up (fun i => am_rf ad (μ x (i : Int))) j.toNat (some (ad y.toNat)))))))) (by omega) (by rw [am_tn h0]; exact am_set_ne) (by
    rw [am_tn h0, hk, am_c_note]
    have e : (fun i : Nat => am_rf ad (am_set μ x j y x (i : Int))) = va_up (fun i => am_rf ad (μ x (i : Int))) j.toNat (some (ad y.toNat)) := funext fun i => by
      unfold va_up am_set
      by_cases e : i = j.toNat
      · subst e
        rw [am_tn hj0]
        simp only [and_self, if_true]
        unfold am_rf
        rw [if_neg (by omega)]
      · rw [if_neg e, if_neg (by omega)]
    rw [e])
  have hG' : am_G n (am_set μ x j y) := by
    have := am_G_set (a := x.toNat) (j := j) (x := y) hH.2.2.2.2.1 (by rw [am_tn h0, hk]; exact am_oks_head hso)
    rw [am_tn h0] at this
    exact this
  rw [List.map_cons, List.map_cons, List.map_cons, am_cv2p b ad h0, am_cv2p b ad hy0]
  refine va_astq hx hb hH.1 hH.2.1 hH.2.2.1 hH.2.2.2.1 x.toNat 2 y.toNat 3 hat rfl hyt (show vwCl[3]? = some (RX3, TX3, 16) from rfl) (am_in hj0 hj32.2 hj) hd (fun H1 locs1 hP hD hS => ?_)
  rw [am_clamp hj0 hj32.2, hupd] at hP hD
  exact kk ad cls H1 locs1 (fun _ _ => rfl) ⟨hH.1, hP, hD, hS, hG', hH.2.2.2.2.2⟩ hL hLo (am_oks_tail (am_oks_tail (am_oks_tail hso)))
theorem am_o_alen {x : Int} {q : Nat × Nat} (hF : am_F p R s m args meth c k) (hH : am_H D dA b A s ad n μ H locs) (hL : am_L b ad L cls (am_ml k)) (hLo : am_oks n L)  (hso : am_oks n ((2, x) :: st)) (hd : decode (am_by k) pc = .ok (.arraylength, 1)) (hk : am_kind x = q) (hq : q.1 ∈ [1, 2, 3, 4]) (hz : q.2 < 2147483648) (kk : am_Kk p l e R s m args below meth c Q D dA b A k n0 ad n (pc + 1) (L) ((0, (q.2 : Int)) :: st) (n) (μ)) : W p l e R s m args below meth c H locs (n - n0) (am_sl n - am_sl n0) Q (F0 m pc cls (((2, x) :: st).map (am_cv b ad))) := by
  obtain ⟨hx, hb, hml, hown, hts, -⟩ := hF
  obtain ⟨q1, z⟩ := q
  have h0 : 0 ≤ x := am_kind_pos hk (by intro e; dsimp only at e; rw [e] at hq; simp at hq)
  have hlt : x < (n : Int) := am_oks_head hso
  have hat := am_at (dA := dA) (b := b) (ad := ad) (μ := μ) hlt h0 hk
  have h1 := am_kk0 kk hH hL hLo (am_oks_cons ⟨by show _ ≤ (z : Int); omega, by show (z : Int) < _; dsimp only at hz; omega⟩ (am_oks_tail hso))
  rw [List.map_cons, am_cv2p b ad h0]
  have hv : Int32.ofNat z = Int32.ofInt (z : Int) := by first | rfl | exact (Int32.ofInt_eq_ofNat).symm | simp
  match q1, hq, hat with
  | 1, _, hat => rw [am_c_int] at hat; exact va_alen hx hb hH.1 hH.2.1 x.toNat 0 hat rfl hv hd h1
  | 2, _, hat => rw [am_c_long] at hat; exact va_alen hx hb hH.1 hH.2.1 x.toNat 1 hat rfl hv hd h1
  | 3, _, hat => rw [am_c_note] at hat; exact va_alen hx hb hH.1 hH.2.1 x.toNat 2 hat rfl hv hd h1
  | 4, _, hat => rw [am_c_ii] at hat; exact va_alen hx hb hH.1 hH.2.1 x.toNat 3 hat rfl hv hd h1
  | 0, h, _ => simp at h
  | _ + 5, h, _ => simp at h
theorem am_o_sld {x j ln : Int} {xs : Int → Int} (hF : am_F p R s m args meth c k) (hH : am_H D dA b A s ad n μ H locs) (hL : am_L b ad L cls (am_ml k)) (hLo : am_oks n L)  (hsc : am_Scr sc b A s) (hs : sc = some (ln, xs)) (hso : am_oks n ((0, j) :: (3, x) :: st)) (hd : decode (am_by k) pc = .ok (.iaload, 1)) (hj0 : 0 ≤ j) (hj : j < ln) (kk : am_Kk p l e R s m args below meth c Q D dA b A k n0 ad n (pc + 1) (L) ((0, xs j) :: st) (n) (μ)) : W p l e R s m args below meth c H locs (n - n0) (am_sl n - am_sl n0) Q (F0 m pc cls (((0, j) :: (3, x) :: st).map (am_cv b ad))) := by
  obtain ⟨hx, hb, hml, hown, hts, -⟩ := hF
  obtain ⟨N, e1, e2, hX, hbl, hbA, hok⟩ := hsc ln xs hs
  have hj32 : -2147483648 ≤ j ∧ j < 2147483648 := am_oks_head hso
  have h1 := am_kk0 kk hH hL hLo (am_oks_cons (hok j) (am_oks_tail (am_oks_tail hso)))
  refine va_sld hx hb hX hbl hbA hH.2.2.2.1 (am_in hj0 hj32.2 (by omega)) hd ?_
  rw [am_clamp hj0 hj32.2, am_tn hj0]
  exact h1
theorem am_o_slen {x ln : Int} {xs : Int → Int} (hF : am_F p R s m args meth c k) (hH : am_H D dA b A s ad n μ H locs) (hL : am_L b ad L cls (am_ml k)) (hLo : am_oks n L)  (hsc : am_Scr sc b A s) (hs : sc = some (ln, xs)) (hso : am_oks n ((3, x) :: st)) (hd : decode (am_by k) pc = .ok (.arraylength, 1)) (kk : am_Kk p l e R s m args below meth c Q D dA b A k n0 ad n (pc + 1) (L) ((0, ln) :: st) (n) (μ)) : W p l e R s m args below meth c H locs (n - n0) (am_sl n - am_sl n0) Q (F0 m pc cls (((3, x) :: st).map (am_cv b ad))) := by
  obtain ⟨hx, hb, hml, hown, hts, -⟩ := hF
  obtain ⟨N, e1, e2, hX, hbl, hbA, hok⟩ := hsc ln xs hs
  have h1 := am_kk0 kk hH hL hLo (am_oks_cons ⟨by show _ ≤ ln; omega, by show ln < _; omega⟩ (am_oks_tail hso))
  refine va_slen hx hb hX hbl hbA hH.2.2.2.1 hd ?_
  rw [List.map_cons, am_cv0, e1] at h1
  have hv : Int32.ofNat N = Int32.ofInt (N : Int) := by first | rfl | exact (Int32.ofInt_eq_ofNat).symm | simp
  rw [hv]
  exact h1
theorem am_kind_lt0 : (List.range 66).all (fun i => decide ((am_kindN i).2 < 2147483648)) = true := by decide +kernel
theorem am_kind_lt20 : (List.range 66).all (fun i => decide ((am_kindN i).2 ≤ 10025)) = true := by decide +kernel
theorem am_kind_lt2 (x : Int) : (am_kind x).2 ≤ 10025 := by
  unfold am_kind
  split
  · decide
  · by_cases h : x.toNat < 66
    · exact of_decide_eq_true (am_all am_kind_lt20 h)
    · unfold am_kindN
      rw [if_neg h]
      split <;> decide
theorem am_kind_lt (x : Int) : (am_kind x).2 < 2147483648 := by
  unfold am_kind
  split
  · decide
  · by_cases h : x.toNat < 66
    · exact of_decide_eq_true (am_all am_kind_lt0 h)
    · unfold am_kindN
      rw [if_neg h]
      split <;> decide
end

/-! a run of the abstract machine is a run of the machine -/
def am_rm (k n n' : Nat) : Room := { frames := am_fr k, cells := n' - n, slots := am_sl n' - am_sl n, locals := am_lo k }
def am_ws (k : Nat) : List Cond := Cond.code (am_y k) (am_by k) (am_ml k) (am_rt k) :: am_tb
def am_Pc (D : va_G) (dA : Nat → ClassId) (b : Nat) (ad : Nat → Nat) (n : Nat) (μ : am_M) (as : List am_V) (sz : Nat) : Array Value → State → Prop := va_Pc (as.map (am_cv b ad)) (fun U => U.heap.size = sz ∧ va_P D vwCl (am_W dA b ad n μ) U.heap ∧ va_K D vwCl (am_tys dA) U ∧ va_D (fun _ => True) (am_W dA b ad n μ) ∧ am_X U)
def am_Qc (D : va_G) (dA : Nat → ClassId) (b : Nat) (ad : Nat → Nat) (n : Nat) (μ : am_M) (sz : Nat) (r : Option am_V) (n' : Nat) (μ' : am_M) : Array Value → State → Outcome → State → Prop := fun _ st oc t => (∃ ad' : Nat → Nat, (∀ i, i < n → ad' i = ad i) ∧ oc = .returned (r.map (am_cv b ad')) ∧ va_P D vwCl (am_W dA b ad' n' μ') t.heap ∧ va_D (va_A (am_W dA b ad n μ) sz) (am_W dA b ad' n' μ') ∧ am_G n' μ' ∧ ∀ v, r = some v → am_ok n' v) ∧ va_F (va_A (am_W dA b ad n μ) sz) st t
theorem am_ex_mono {f : Nat} : ∀ {sc : am_Sc} {k pc : Nat} {L st : List am_V} {n : Nat} {μ : am_M} {r : Option am_V} {n' : Nat} {μ' : am_M}, am_ex f sc k pc L st n μ = some (r, n', μ') → n ≤ n' := by
  induction f with
  | zero => intro sc k pc L st n μ r n' μ' h; cases h
  | succ f ih =>
    intro sc k pc L st n μ r n' μ' h
    simp only [am_ex] at h
    split at h
    · cases h
    · split at h
      · rename_i hle
        exact Nat.le_trans hle (ih h)
      · cases h
    · split at h
      · cases h
      · rename_i h1
        exact Nat.le_trans (ih h1) (ih h)
    · cases h
      exact Nat.le_refl _
theorem am_step_inv {sc : am_Sc} {k pc : Nat} {L st : List am_V} {n : Nat} {μ : am_M} {q : am_R} (h : am_step sc k pc L st n μ = some q) : ∃ (ins : Instr) (len : Nat), decode (am_by k) pc = .ok (ins, len) ∧ am_len_ok ins len = true ∧ am_do sc k pc ins L st n μ = some q := by
  unfold am_step at h
  split at h
  · rename_i ins len hd
    split at h
    · rename_i hl
      exact ⟨ins, len, hd, hl, h⟩
    · cases h
  · cases h
theorem am_cats_cons (v : am_V) (r : List am_V) : am_cats (v :: r) = am_cat v + am_cats r := rfl
theorem am_ent_len (as : List am_V) : (am_ent as).length = am_cats as := by
  induction as with
  | nil => rfl
  | cons v r ih =>
    rw [am_cats_cons]
    unfold am_ent am_cat
    split
    · simp only [List.length_cons, ih]
      omega
    · simp only [List.length_cons, ih]
      omega
theorem am_ar1 {n0 n n1 R : Nat} (h1 : n0 ≤ n) (h2 : n ≤ n1) (h3 : n1 - n0 ≤ R) : n - n0 + (n1 - n) ≤ R := by omega
theorem am_ar2 {n0 n n1 : Nat} (h1 : n0 ≤ n) (h2 : n ≤ n1) : n - n0 + (n1 - n) = n1 - n0 := by omega
theorem am_sl_len {b : Nat} {ad : Nat → Nat} (as : List am_V) : (lg_sl (as.map (am_cv b ad))).length = am_cats as := by
  induction as with
  | nil => rfl
  | cons v r ih =>
    unfold lg_sl at ih ⊢
    rw [List.map_cons, List.flatMap_cons, List.length_append, ih]
    unfold am_cats
    rw [List.map_cons, List.sum_cons, am_cat_cv]
    congr 1
    unfold am_cat
    split
    · rfl
    · rfl
theorem am_ent_args {b : Nat} {ad : Nat → Nat} (as : List am_V) : ∀ (o i : Nat) (v : am_V), (am_ent as)[i]? = some v → v.1 ≤ 3 → (o + i, am_cv b ad v) ∈ lv_args o (as.map (am_cv b ad)) := by
  induction as with
  | nil => intro o i v h; simp [am_ent] at h
  | cons w r ih =>
    intro o i v h hv
    unfold am_ent at h
    rw [List.map_cons]
    unfold lv_args
    rw [am_cat_cv]
    unfold am_cat
    split at h
    · rename_i h1
      rw [if_pos h1, if_pos rfl]
      match i, h with
      | 0, h => cases h; exact List.mem_cons_self
      | 1, h => cases h; exact absurd hv (by decide)
      | i + 2, h =>
        have := ih (o + 2) i v h hv
        rw [show o + 2 + i = o + (i + 2) by omega] at this
        exact List.mem_cons_of_mem _ this
    · rename_i h1
      rw [if_neg h1, if_neg (by decide)]
      match i, h with
      | 0, h => cases h; exact List.mem_cons_self
      | i + 1, h =>
        have := ih (o + 1) i v h hv
        rw [show o + 1 + i = o + (i + 1) by omega] at this
        exact List.mem_cons_of_mem _ this
theorem am_entry_L {b : Nat} {ad : Nat → Nat} {k : Nat} {as : List am_V} (h : am_cats as ≤ am_ml k) : am_L b ad (am_entry k as) ((lg_sl (as.map (am_cv b ad)) ++ List.replicate (am_ml k - (lg_sl (as.map (am_cv b ad))).length) Slot.unset).toArray) (am_ml k) := by
  have h1 := lv_entry (as.map (am_cv b ad)) (n := am_ml k) (by rw [am_sl_len]; exact h)
  refine ⟨h1.1, h1.2.1, ?_, fun i v hi hv => ?_⟩
  · unfold am_entry
    rw [List.length_append, List.length_replicate, am_ent_len]
    omega
  · unfold am_entry at hi
    rw [List.getElem?_append] at hi
    split at hi
    · have := am_ent_args (b := b) (ad := ad) as 0 i v hi hv
      rw [Nat.zero_add] at this
      exact h1.2.2 _ this
    · rw [List.getElem?_replicate] at hi
      split at hi
      · cases hi; exact absurd hv (by decide)
      · cases hi
theorem am_entry_oks {n k : Nat} {as : List am_V} (h : am_oks n as) : am_oks n (am_entry k as) := by
  have h1 : am_oks n (am_ent as) := by
    induction as with
    | nil => intro v hv; cases hv
    | cons w r ih =>
      unfold am_ent
      split
      · exact am_oks_cons (am_oks_head h) (am_oks_cons trivial (ih (am_oks_tail h)))
      · exact am_oks_cons (am_oks_head h) (ih (am_oks_tail h))
  intro v hv
  unfold am_entry at hv
  rcases List.mem_append.mp hv with h2 | h2
  · exact h1 v h2
  · rw [List.eq_of_mem_replicate h2]; trivial
/-- what is to be shown of runs with fuel f -/
def am_Sound (f : Nat) : Prop := ∀ {sc : am_Sc} {k pc : Nat} {L st : List am_V} {n : Nat} {μ : am_M} {r : Option am_V} {n' : Nat} {μ' : am_M}, am_ex f sc k pc L st n μ = some (r, n', μ') → ∀ {p : Program} {l : Launch} {e : Env} {R : Room} {s : State} {m : MethodId} {args : Array Value} {below : List Frame} {meth : Method} {c : Code} {Q : State → Prop} {D : va_G} {dA : Nat → ClassId} {b : Nat} {A : Nat → Prop} {n0 : Nat} {ad : Nat → Nat} {cls : Array Slot} {H : Heap} {locs : List Loc}, am_F p R s m args meth c k → am_H D dA b A s ad n μ H locs → am_Scr sc b A s → am_L b ad L cls (am_ml k) → am_oks n L → am_oks n st → n0 ≤ n → n' - n0 ≤ R.cells → am_sl n' - am_sl n0 ≤ R.slots →
  (∀ (ad' : Nat → Nat) (cls' : Array Slot) (H' : Heap) (locs' : List Loc) (pc' : Nat) (ins : Instr), (∀ i, i < n → ad' i = ad i) → am_H D dA b A s ad' n' μ' H' locs' → (∀ v, r = some v → am_ok n' v) → decode (am_by k) pc' = .ok (ins, 1) → am_isr k ins r → W p l e R s m args below meth c H' locs' (n' - n0) (am_sl n' - am_sl n0) Q (F0 m pc' cls' (r.toList.map (am_cv b ad')))) →
  W p l e R s m args below meth c H locs (n - n0) (am_sl n - am_sl n0) Q (F0 m pc cls (st.map (am_cv b ad)))
theorem am_run {f : Nat} (IH : am_Sound f) {k : Nat} {as : List am_V} {n : Nat} {μ : am_M} {r : Option am_V} {n' : Nat} {μ' : am_M} (h : am_ex f none k 0 (am_entry k as) [] n μ = some (r, n', μ')) (hk : k < 140) (hos : am_oks n as) (hG : am_G n μ) (hcat : am_cats as ≤ am_ml k) (l : Launch) (D : va_G) (dA : Nat → ClassId) (b : Nat) (ad : Nat → Nat) (sz : Nat) : Met l (am_y k) (am_ws k) (am_rm k n n') (am_Pc D dA b ad n μ as sz) (am_Qc D dA b ad n μ sz r n' μ') (n' - n) (am_sl n' - am_sl n) (va_A (am_W dA b ad n μ) sz) := by
  obtain ⟨v1, v2, v3, v4, v5, v6, v7⟩ := am_v_y (show k < 141 by omega)
  refine Met.ofW (cc := am_by k) (maxL := am_ml k) (ret := am_rt k) v5 rfl ?_
  intro p e s m args below meth c s₁ B hml hv
  obtain ⟨rfl, hsz, hP, hK, hD0, hX⟩ := hv
  subst hsz
  have hts0 := atoms_spec (ws := am_ws k) B.pre
  have hown : s.vm.findClass (am_cn (am_cl k)) = some m.cls := by
    rw [← v1]
    exact findClass_of_methodNamed B.named
  have hin := (name_of_methodNamed B.named B.method).1
  have hF : am_F p (am_rm k n n') s m (as.map (am_cv b ad)).toArray meth c k := ⟨B.exec, B.bytes, hml, hown, fun w hw => hts0 w (List.mem_cons_of_mem _ hw), hX, Nat.le_refl _, Nat.le_refl _, fun hkd => hin.trans (v6.mp hkd), B.notSynchronized, B.returns, by omega⟩
  have hH : am_H D dA b (va_A (am_W dA b ad n μ) s.heap.size) s ad n μ s.heap [] := ⟨hK, hP, hD0.self, va_S.rf, hG, fun q hq => Or.inr hq⟩
  rw [lg_entry_eq]
  have hlocks := B.notSynchronized
  refine W.cs (Nat.sub_self n).symm (Nat.sub_self (am_sl n)).symm (IH h hF hH (fun _ _ hh => by cases hh) (am_entry_L hcat) (am_entry_oks hos) (fun v hv => by cases hv) (Nat.le_refl n) (Nat.le_refl _) (Nat.le_refl _) ?_)
  intro ad' cls' H' locs' pc' ins ha hH' hr hd hisr
  have hq : ∀ t : State, t.heap = H' → am_Qc D dA b ad n μ s.heap.size r n' μ' (as.map (am_cv b ad)).toArray s (.returned (r.map (am_cv b ad'))) t := fun t ht => ⟨⟨ad', ha, rfl, by rw [ht]; exact hH'.2.1, hH'.2.2.1, hH'.2.2.2.2.1, hr⟩, hH'.2.2.2.1.F ht⟩
  rcases hisr with ⟨rfl, x, rfl, hrt⟩ | ⟨rfl, x, rfl, hrt⟩ | ⟨rfl, x, rfl, hrt⟩ | ⟨rfl, rfl, hrt⟩
  · rcases hrt with hrt | ⟨hrt, hx⟩
    · exact W.iret B.exec B.bytes (B.returns.trans hrt) (fun t ht _ => hq t ht) hH'.2.2.2.1.2.2 hd hlocks
    · exact W.zret B.exec B.bytes (B.returns.trans hrt) (by rcases hx with rfl | rfl <;> rfl) (fun t ht _ => hq t ht) hH'.2.2.2.1.2.2 hd hlocks
  · exact W.lret B.exec B.bytes (B.returns.trans hrt) (fun t ht _ => hq t ht) hH'.2.2.2.1.2.2 hd hlocks
  · exact W.aret B.exec B.bytes (B.returns.trans hrt) (Or.inl ⟨_, rfl⟩) (am_cvr (v := (2, x)) (Or.inl rfl)) (fun t ht _ => hq t ht) hH'.2.2.2.1.2.2 hd hlocks
  · exact W.vret B.exec B.bytes (B.returns.trans hrt) (fun t ht _ => hq t ht) hH'.2.2.2.1.2.2 hd hlocks
section
variable {p : Program} {l : Launch} {e : Env} {R : Room} {s : State} {m : MethodId} {args : Array Value} {below : List Frame} {meth : Method} {c : Code} {Q : State → Prop} {D : va_G} {dA : Nat → ClassId} {b : Nat} {A : Nat → Prop} {k n0 : Nat} {ad : Nat → Nat} {n pc : Nat} {L st : List am_V} {μ : am_M} {cls : Array Slot} {H : Heap} {locs : List Loc}
theorem am_callr {r : Option am_V} {n1 : Nat} {μ1 : am_M} {cells slots mc ms : Nat} {st0 rest : List Value} {a : Array Value} (hr : va_Run p l e R s m args below meth c H locs cells slots mc ms (F0 m pc cls st0) rest (am_Qc D dA b ad n μ H.size r n1 μ1 a) (va_A (am_W dA b ad n μ) H.size)) (hH : am_H D dA b A s ad n μ H locs)
    (kk : ∀ (ad' : Nat → Nat) (H1 : Heap) (locs1 : List Loc), (∀ i, i < n → ad' i = ad i) → am_H D dA b A s ad' n1 μ1 H1 locs1 → (∀ v, r = some v → am_ok n1 v) → W p l e R s m args below meth c H1 locs1 (cells + mc) (slots + ms) Q (F0 m (pc + 3) cls ((r.map (am_cv b ad')).toList ++ rest))) : W p l e R s m args below meth c H locs cells slots Q (F0 m pc cls st0) := by
  intro T hT X
  obtain ⟨v, st₀, t, T', L, h0, X', hL, e1, e2, ⟨⟨ad', ha, hv, hP1, hD1, hG1, hr1⟩, hz, hk⟩, st⟩ := hr T hT X
  cases hv
  rw [h0] at hz hk
  obtain ⟨hK, hP, hD, hS, hG, hA⟩ := hH
  have hfree : ∀ q, va_A (am_W dA b ad n μ) H.size q → A q := by
    intro q hq
    rcases hq with ⟨i, x, hx⟩ | hq
    · exact hD.2 i _ hx
    · exact hA q (Nat.le_trans hS.1 hq)
  obtain ⟨t2, a1, b1⟩ := kk ad' T'.heap (locs ++ L) ha ⟨hK, by rw [e1]; exact hP1, hD1.weaken (fun _ q _ h => hfree q.1 h), ⟨Nat.le_trans hS.1 (by rw [e1]; exact hz), fun q h1 h2 => by rw [e1, hk q (Nat.lt_of_lt_of_le h1 hS.1) (fun z => h2 (hfree q z))]; exact hS.2.1 q h1 h2, fun q hq => by
      rcases List.mem_append.mp hq with h | h
      · exact hS.2.2 q h
      · exact hfree _ (hL q h)⟩, hG1, hA⟩ hr1 T' rfl X'
  exact ⟨t2, st t2 a1, b1⟩
theorem am_blind {as : List am_V} {sz : Nat} : FrameBlind (am_Pc D dA b ad n μ as sz) := fun a U g mk q => by
  obtain ⟨q0, q1, qP, qK, qD, qX⟩ := q
  exact ⟨q0, q1, qP, va_K.moved (u := U) (U := U.calling g mk a) (Vm.Alike.refl U.vm) qK, qD, am_X.same (s := U) (U := U.calling g mk a) rfl qX⟩
theorem am_pre (hF : am_F p R s m args meth c k) (hH : am_H D dA b A s ad n μ H locs) {as : List am_V} : ∀ U : State, U.heap = H → s.WarmedH U.vm → am_Pc D dA b ad n μ as H.size (as.map (am_cv b ad)).toArray U := fun U hU hW => ⟨rfl, by rw [hU], by rw [hU]; exact hH.2.1, va_K.moved hW.alike hH.1, hH.2.2.1.weaken (fun _ _ _ _ => trivial), am_X.warm hW hF.2.2.2.2.2.1⟩
theorem am_call_W {f : Nat} (IH : am_Sound f) (hF : am_F p R s m args meth c k) (hH : am_H D dA b A s ad n μ H locs) (hL : am_L b ad L cls (am_ml k)) (hso : am_oks n st) (hn0 : n0 ≤ n) {kd idx : Nat} {ins : Instr} {len : Nat} (hd : decode (am_by k) pc = .ok (ins, len)) (hlen : am_len_ok ins len = true) (hins : (ins = .invokevirtual idx ∧ kd = 0) ∨ (ins = .invokestatic idx ∧ kd = 1) ∨ (ins = .invokespecial idx ∧ kd = 2)) {k' : Nat} {as rest : List am_V} (h : am_call kd k idx L st = some (.inr (.inl (k', as, rest)))) {r : Option am_V} {n1 : Nat} {μ1 : am_M} (hex : am_ex f none k' 0 (am_entry k' as) [] n μ = some (r, n1, μ1)) (hc : n1 - n0 ≤ R.cells) (hs : am_sl n1 - am_sl n0 ≤ R.slots)
    (kk : ∀ (ad' : Nat → Nat) (H1 : Heap) (locs1 : List Loc), (∀ i, i < n → ad' i = ad i) → am_H D dA b A s ad' n1 μ1 H1 locs1 → (∀ v, r = some v → am_ok n1 v) → W p l e R s m args below meth c H1 locs1 (n1 - n0) (am_sl n1 - am_sl n0) Q (F0 m (pc + 3) cls ((r.toList ++ rest).map (am_cv b ad')))) : W p l e R s m args below meth c H locs (n - n0) (am_sl n - am_sl n0) Q (F0 m pc cls (st.map (am_cv b ad))) := by
  obtain ⟨w1, w2, ht, hkd, hfr, hlo, hk', hcat, hrest, hst⟩ := am_call_inv h
  have hmono := am_ex_mono hex
  have hsm := am_sl_mono hmono
  have hs0 := am_sl_mono hn0
  have hk40 : k' < 140 := hk'
  obtain ⟨v1, v2, v3, v4, v5, v6, v7⟩ := am_v_y (show k' < 141 by omega)
  have hm1 := List.all_eq_true.mp am_v_mls1 _ (am_lookup ht)
  have hm0 := List.all_eq_true.mp am_v_mls0 _ (am_lookup ht)
  simp only [Bool.and_eq_true, Bool.or_eq_true, decide_eq_true_eq] at hm1 hm0
  obtain ⟨⟨hm1, hm2⟩, hm3⟩ := hm1
  have hx := hF.1
  have hb := hF.2.1
  have hml := hF.2.2.1
  have hown := hF.2.2.2.1
  have hts := hF.2.2.2.2.1
  have hfrR := hF.2.2.2.2.2.2.1
  have hloR := hF.2.2.2.2.2.2.2.1
  have hRm : (am_rm k' n n1).frames + 1 ≤ R.frames ∧ 8 + (am_ml k' + 11) + (am_rm k' n n1).locals ≤ R.locals := ⟨by show am_fr k' + 1 ≤ _; omega, by show 8 + (am_ml k' + 11) + am_lo k' ≤ _; omega⟩
  have hfs : n - n0 + (n1 - n) ≤ R.cells ∧ am_sl n - am_sl n0 + (am_sl n1 - am_sl n) ≤ R.slots := ⟨am_ar1 hn0 hmono hc, am_ar1 hs0 hsm hs⟩
  have hGood : GoodIn am_tb (am_ws k') := am_good (fun w hw => (List.mem_cons.mp hw).elim (fun e => e ▸ am_v_code hk40) id)
  have hini : (Cond.initialized (am_y k').cls).before args s = true := by rw [v1]; exact hts _ (am_v_ini (by omega))
  have hcats : (((rest.map (am_cv b ad))).map fun v => v.category).sum ≤ 8 := by rw [am_cats_cv]; exact hrest
  have hkk : ∀ (ad' : Nat → Nat) (H1 : Heap) (locs1 : List Loc), (∀ i, i < n → ad' i = ad i) → am_H D dA b A s ad' n1 μ1 H1 locs1 → (∀ v, r = some v → am_ok n1 v) → W p l e R s m args below meth c H1 locs1 (n - n0 + (n1 - n)) (am_sl n - am_sl n0 + (am_sl n1 - am_sl n)) Q (F0 m (pc + 3) cls ((r.map (am_cv b ad')).toList ++ rest.map (am_cv b ad))) := by
    intro ad' H1 locs1 ha hH1 hr1
    have h9 := kk ad' H1 locs1 ha hH1 hr1
    have hro : am_oks n rest := by
      intro v hv
      rcases hst with ⟨-, -, e⟩ | ⟨-, x, as', -, -, -, e⟩
      · exact hso v (by rw [e]; exact List.mem_append_right _ hv)
      · exact hso v (by rw [e]; exact List.mem_append_right _ (List.mem_cons_of_mem _ hv))
    rw [List.map_append, am_cvs_congr ha hro] at h9
    have e : (r.map (am_cv b ad')).toList = r.toList.map (am_cv b ad') := by cases r <;> rfl
    rw [e]
    exact W.cs (am_ar2 hn0 hmono) (am_ar2 hs0 hsm) h9
  rcases hst with ⟨hk1, hlen1, hst⟩ | ⟨hk1, x, as', has, hkx, hlen1, hst⟩
  · -- static
    have hos : am_oks n as := fun v hv => hso v (by rw [hst]; exact List.mem_append_left _ (List.mem_reverse.mpr hv))
    have hM := am_run IH hex hk40 hos hH.2.2.2.2.1 hcat l D dA b ad H.size
    have hstat := am_v_stat hk40 (hkd.trans hk1)
    have hins1 : ins = .invokestatic idx := by rcases hins with h | h | h <;> first | exact h.1 | exact absurd (h.2.symm.trans hk1) (by decide)
    subst hins1
    obtain rfl := am_lk (z := 3) hlen rfl
    have hstack : st.map (am_cv b ad) = (as.map (am_cv b ad)).reverse ++ rest.map (am_cv b ad) := by rw [hst, List.map_append, List.map_reverse]
    by_cases hne : w1 = 0
    · rw [if_pos hne] at hm0
      refine am_callr (va_runS (As := as.map (am_cv b ad)) (rest := rest.map (am_cv b ad)) ⟨hx, hb, hml, hown, hts⟩ hM (va_cwS (am_na k') hts (am_good (fun w hw => ?_)) rfl rfl rfl ⟨v2, v3, v4⟩ hRm) ⟨am_blind, am_pre hF hH⟩ rfl (by rw [List.length_map, hlen1]) hL.1 hstack (lv_room hcats) hd hfs) hH hkk
      simp only [va_wsS, List.cons_append, List.nil_append, List.mem_cons] at hw
      rcases hw with rfl | rfl | rfl | hw
      · exact am_mem hm0.2 rfl
      · exact hstat
      · rw [v1]; exact am_v_ini (by omega)
      · exact (hGood w hw).1
    · rw [if_neg hne] at hm0
      have hl : va_Nw (.methodLinkNest (am_cn (am_cl k)) idx (am_y k') RX6) s := hF.2.2.2.2.2.1.2.2 ((am_cl k, idx), (k', w1, w2)) (am_lookup ht) hne
      have hcn : va_CN R s args (am_cn (am_cl k)) idx (am_y k') RX6 (am_by k') (am_ml k') (am_rt k') (am_ws k') (am_rm k' n n1) (n1 - n) (am_sl n1 - am_sl n) (am_na k') := va_cnB (am_na k') hts hGood rfl rfl rfl hl hini ⟨v2, v3, v4⟩ hRm
      have hfix : CallFix p m c (am_by k) (am_ml k) s args am_tb (am_cn (am_cl k)) := ⟨hx, hb, hml, hown, hts⟩
      have hrun := va_runSN (g := F0 m pc cls (st.map (am_cv b ad))) (locs := locs) (below := below) (e := e) (meth := meth) (As := as.map (am_cv b ad)) (rest := rest.map (am_cv b ad)) hfix hM ⟨hcn, hts _ hstat, trivial⟩ ⟨am_blind, am_pre hF hH⟩ rfl (by rw [List.length_map, hlen1]) hL.1 hstack (lv_room hcats) hd hfs
      exact am_callr hrun hH hkk
  · subst has
    have hos : am_oks n ((2, x) :: as') := fun v hv => hso v (by
      rw [hst]
      rcases List.mem_cons.mp hv with h | h
      · rw [h]; exact List.mem_append_right _ List.mem_cons_self
      · exact List.mem_append_left _ (List.mem_reverse.mpr h))
    have hx0 : 0 ≤ x := am_kind_pos hkx (show (0 : Nat) ≠ 9 by decide)
    have hxl : x < (n : Int) := am_oks_head hos
    have hM := am_run IH hex hk40 hos hH.2.2.2.2.1 hcat l D dA b ad H.size
    have hinst := am_v_inst hk40 (by omega)
    have hstack : st.map (am_cv b ad) = (as'.map (am_cv b ad)).reverse ++ Value.ref (ad x.toNat) :: rest.map (am_cv b ad) := by rw [hst, List.map_append, List.map_reverse, List.map_cons, am_cv2p b ad hx0]
    have hpre : ∀ U : State, U.heap = H → s.WarmedH U.vm → am_Pc D dA b ad n μ ((2, x) :: as') H.size (Value.ref (ad x.toNat) :: as'.map (am_cv b ad)).toArray U := by
      have := am_pre hF hH (as := (2, x) :: as')
      rw [List.map_cons, am_cv2p b ad hx0] at this
      exact this
    have hQ : (((2, x) :: as').map (am_cv b ad)).toArray = (Value.ref (ad x.toNat) :: as'.map (am_cv b ad)).toArray := by rw [List.map_cons, am_cv2p b ad hx0]
    rcases hins with ⟨rfl, rfl⟩ | ⟨rfl, rfl⟩ | ⟨rfl, rfl⟩
    · obtain rfl := am_lk (z := 3) hlen rfl
      have hw0 : w1 = 0 := hm1.resolve_right (fun z => z hkd)
      rw [if_pos hw0] at hm0
      have hat := am_at (dA := dA) (b := b) (ad := ad) (μ := μ) hxl hx0 hkx
      rw [am_c_obj] at hat
      have hrecv := va_recv hH.1 hH.2.1 (am_clsv hm3).1 hat
      refine am_callr (va_runV (C := am_cn (am_cl k')) (As := as'.map (am_cv b ad)) (rest := rest.map (am_cv b ad)) ⟨hx, hb, hml, hown, hts⟩ hM (cwV (am_na k') hts (am_good (fun w hw => ?_)) rfl rfl rfl ⟨v1, v2, v3, v4⟩ hRm) ⟨am_blind, hrecv, hpre⟩ rfl (by rw [List.length_map, hlen1]) hL.1 hstack (lv_room hcats) hd hfs) hH hkk
      simp only [wsV, List.cons_append, List.nil_append, List.mem_cons] at hw
      rcases hw with rfl | rfl | rfl | rfl | hw
      · exact am_mem hm0.2 rfl
      · exact hinst
      · exact am_v_sel hk40 hkd
      · exact am_v_ini (by omega)
      · exact (hGood w hw).1
    · exact absurd rfl hk1
    · obtain rfl := am_lk (z := 3) hlen rfl
      have hrt : am_rt k' = none := hm2.resolve_left (fun z => z hkd)
      have hws : am_ws k' = Cond.code (am_y k') (am_by k') (am_ml k') none :: am_tb := by unfold am_ws; rw [hrt]
      by_cases hne : w1 = 0
      · rw [if_pos hne] at hm0
        exact am_callr (va_runI (As := as'.map (am_cv b ad)) (rest := rest.map (am_cv b ad)) ⟨hx, hb, hml, hown, hts⟩ hM (cwI (am_na k') hts hGood hws rfl rfl hini (hts _ (am_mem hm0.2 rfl)) (hts _ hinst) (v6.mp hkd) ⟨v2, v3, v4⟩ hRm) ⟨am_blind, hpre⟩ rfl (by rw [List.length_map, hlen1]) hL.1 hstack (lv_room hcats) hd hfs) hH hkk
      · rw [if_neg hne] at hm0
        have hl : va_Nw (.methodLinkNest (am_cn (am_cl k)) idx (am_y k') RX6) s := hF.2.2.2.2.2.1.2.2 ((am_cl k, idx), (k', w1, w2)) (am_lookup ht) hne
        have hcn : va_CN R s args (am_cn (am_cl k)) idx (am_y k') RX6 (am_by k') (am_ml k') none (am_ws k') (am_rm k' n n1) (n1 - n) (am_sl n1 - am_sl n) (am_na k') := va_cnB (am_na k') hts hGood hws rfl rfl hl hini ⟨v2, v3, v4⟩ hRm
        have hfix : CallFix p m c (am_by k) (am_ml k) s args am_tb (am_cn (am_cl k)) := ⟨hx, hb, hml, hown, hts⟩
        have hrun := va_runIN (g := F0 m pc cls (st.map (am_cv b ad))) (locs := locs) (below := below) (e := e) (meth := meth) (As := as'.map (am_cv b ad)) (rest := rest.map (am_cv b ad)) hfix hM ⟨hcn, v6.mp hkd, hts _ hinst⟩ ⟨am_blind, hpre⟩ rfl (by rw [List.length_map, hlen1]) hL.1 hstack (lv_room hcats) hd hfs
        exact am_callr hrun hH hkk
end
theorem am_sound : ∀ f : Nat, am_Sound f := by
  intro f
  induction f with
  | zero => intro sc k pc L st n μ r n' μ' h; cases h
  | succ f IH =>
    intro sc k pc L st n μ r n' μ' h p l e R s m args below meth c Q D dA b A n0 ad cls H locs hF hH hsc hL hLo hso hn0 hc hs hret
    simp only [am_ex] at h
    split at h
    · cases h
    · rename_i pc1 L1 st1 n1 μ1 hstep
      obtain ⟨ins, len, hd, hlen, hdo⟩ := am_step_inv hstep
      split at h
      · rename_i hle
        have hm := am_ex_mono h
        have hsm := am_sl_mono hm
        exact am_do_W hF hH hL hLo hsc hso hn0 hd hlen hdo (by omega) (by omega) (fun ad1 cls1 H1 locs1 ha1 hH1 hL1 hLo1 hso1 => IH h hF hH1 hsc hL1 hLo1 hso1 (by omega) hc hs (fun ad' cls' H' locs' pc' ins' ha' hH' hr' hd' hi' => hret ad' cls' H' locs' pc' ins' (fun i hi => (ha' i (by omega)).trans (ha1 i hi)) hH' hr' hd' hi'))
      · cases h
    · rename_i k1 as rest hstep
      obtain ⟨ins, len, hd, hlen, hdo⟩ := am_step_inv hstep
      split at h
      · cases h
      · rename_i r1 n1 μ1 hex
        obtain ⟨kd, idx, hins, hcall⟩ := am_do_call hdo
        have hm1 := am_ex_mono hex
        have hm := am_ex_mono h
        have hsm := am_sl_mono hm
        have hsub : am_oks n rest := by
          obtain ⟨w1, w2, -, -, -, -, -, -, -, hst⟩ := am_call_inv hcall
          intro v hv
          rcases hst with ⟨-, -, e⟩ | ⟨-, x, as', -, -, -, e⟩
          · exact hso v (by rw [e]; exact List.mem_append_right _ hv)
          · exact hso v (by rw [e]; exact List.mem_append_right _ (List.mem_cons_of_mem _ hv))
        exact am_call_W IH hF hH hL hso hn0 hd hlen hins hcall hex (by omega) (by omega) (fun ad1 H1 locs1 ha1 hH1 hr1 => IH h hF hH1 hsc (am_L_congr ha1 hLo hL) (am_oks_mono hm1 hLo) (fun v hv => by
          rcases List.mem_append.mp hv with h2 | h2
          · exact hr1 v (by cases r1 with | none => cases h2 | some w => simp at h2; rw [h2])
          · exact am_ok_mono hm1 (hsub v h2)) (by omega) hc hs (fun ad' cls' H' locs' pc' ins' ha' hH' hr' hd' hi' => hret ad' cls' H' locs' pc' ins' (fun i hi => (ha' i (by omega)).trans (ha1 i hi)) hH' hr' hd' hi'))
    · rename_i r1 hstep
      obtain ⟨ins, len, hd, hlen, hdo⟩ := am_step_inv hstep
      obtain ⟨hst, hisr⟩ := am_do_ret hdo
      cases h
      subst hst
      have hl1 : len = 1 := by
        rcases hisr with ⟨rfl, -⟩ | ⟨rfl, -⟩ | ⟨rfl, -⟩ | ⟨rfl, -⟩ <;> exact am_lk hlen rfl
      subst hl1
      exact hret ad cls H locs pc ins (fun _ _ => rfl) hH (fun v hv => hso v (by rw [hv]; exact List.mem_cons_self)) hd hisr

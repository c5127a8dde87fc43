/-! what a frame of the machine knows; what moves along -/
theorem va_AOA.spec {ty : FieldType} {U : State} (h : va_AOA ty U) : ∃ comp c k, U.vm.findClass (FieldType.array ty).toString = some comp ∧ (U.vm.classes.findIdx? fun (x : Class) => match x.kind with | .array component _ => component == comp | _ => false) = some c ∧ U.vm.classes[c]? = some k ∧ (match k.kind with | .array _ t => decide (t = FieldType.array ty) && decide (U.vm.findClass ("[" ++ (FieldType.array ty).toString) = some c) | _ => false) = true := by
  unfold va_AOA Cond.before Cond.holds at h
  simp only [Cond.value, beq_iff_eq] at h
  cases hc : U.vm.findClass (FieldType.array ty).toString with
  | none => simp [hc] at h
  | some comp =>
    simp only [hc, Option.bind_some, Option.bind_eq_some_iff, Option.map_eq_some_iff] at h
    obtain ⟨c, hi, k, hk, hb⟩ := h
    exact ⟨comp, c, k, rfl, hi, hk, hb⟩
theorem va_AOA.moved {ty : FieldType} {u U : State} (hvm : u.vm.Alike U.vm) (h : va_AOA ty u) : va_AOA ty U := by
  obtain ⟨comp, c, k, h1, h2, h3, h4⟩ := va_AOA.spec h
  obtain ⟨k', hk', he⟩ := hvm.2.2 _ _ h3
  have hi : (U.vm.classes.findIdx? fun (x : Class) => match x.kind with | .array component _ => component == comp | _ => false) = some c := by
    have e1 := va_idx_bare U.vm comp
    have e2 := va_idx_bare u.vm comp
    have e3 : U.vm.bare = u.vm.bare := by first | exact hvm.bare_eq | exact hvm.bare_eq.symm
    rw [e3] at e1
    exact e1.symm.trans (e2.trans h2)
  have f1 : U.vm.findClass (FieldType.array ty).toString = some comp := by rw [hvm.findClass]; exact h1
  have f2 : U.vm.findClass ("[" ++ (FieldType.array ty).toString) = u.vm.findClass ("[" ++ (FieldType.array ty).toString) := by rw [hvm.findClass]
  have hkind : k'.kind = k.kind := by rw [he]
  unfold va_AOA Cond.before Cond.holds
  simp only [Cond.value]
  rw [f1, Option.bind_some]
  refine (congrArg (fun o : Option Nat => (o.bind (fun c => (U.vm.classes[c]?).map fun (k : Class) => match k.kind with | .array _ t => decide (t = FieldType.array ty) && decide (U.vm.findClass ("[" ++ (FieldType.array ty).toString) = some c) | _ => false) == some true)) hi).trans ?_
  simp only [Option.bind_some, hk', Option.map_some, hkind, f2]
  rw [h4]
  rfl
def am_X (s : State) : Prop := va_AO RX3 s ∧ va_AOA .int s ∧ ∀ q ∈ am_mls, q.2.2.1 ≠ 0 → va_Nw (Cond.methodLinkNest (am_cn q.1.1) q.1.2 (am_y q.2.1) RX6) s
theorem am_X.warm {s U : State} (hW : s.WarmedH U.vm) (h : am_X s) : am_X U := ⟨va_AO.moved hW.alike h.1, va_AOA.moved hW.alike h.2.1, fun q hq hn => va_Nw.warmM hW (h.2.2 q hq hn)⟩
theorem am_X.same {s U : State} (hv : s.vm = U.vm) (h : am_X s) : am_X U := ⟨va_AO.moved (by rw [hv]; exact Vm.Alike.refl U.vm) h.1, va_AOA.moved (by rw [hv]; exact Vm.Alike.refl U.vm) h.2.1, fun q hq hn => va_Nw.same rfl hv (h.2.2 q hq hn)⟩
def am_F (p : Program) (R : Room) (s : State) (m : MethodId) (args : Array Value) (meth : Method) (c : Code) (k : Nat) : Prop :=
  p.tables.exec = Jvm.exec ∧ c.code = am_by k ∧ c.maxLocals = am_ml k ∧ s.vm.findClass (am_cn (am_cl k)) = some m.cls ∧ (∀ w ∈ am_tb, w.before args s = true) ∧ am_X s ∧ am_fr k ≤ R.frames ∧ am_lo k ≤ R.locals ∧ (am_kd k = 2 → meth.name = "<init>") ∧ meth.locks = false ∧ meth.sig.returnType = am_rt k ∧ k < 141
def am_H (D : va_G) (dA : Nat → ClassId) (b : Nat) (A : Nat → Prop) (s : State) (ad : Nat → Nat) (n : Nat) (μ : am_M) (H : Heap) (locs : List Loc) : Prop :=
  va_K D vwCl (am_tys dA) s ∧ va_P D vwCl (am_W dA b ad n μ) H ∧ va_D A (am_W dA b ad n μ) ∧ va_S A s.heap H locs ∧ am_G n μ ∧ ∀ q, s.heap.size ≤ q → A q
/-- the script, where the frame has it -/
def am_Scr (sc : am_Sc) (b : Nat) (A : Nat → Prop) (s : State) : Prop := ∀ (l : Int) (xs : Int → Int), sc = some (l, xs) → ∃ N : Nat, l = (N : Int) ∧ N < 2147483648 ∧ va_X b N (fun j => Int32.ofInt (xs (j : Int))) s s.heap ∧ b < s.heap.size ∧ ¬ A b ∧ ∀ j : Int, am_ok 0 (0, xs j)
def am_Kk (p : Program) (l : Launch) (e : Env) (R : Room) (s : State) (m : MethodId) (args : Array Value) (below : List Frame) (meth : Method) (c : Code) (Q : State → Prop) (D : va_G) (dA : Nat → ClassId) (b : Nat) (A : Nat → Prop) (k n0 : Nat) (ad : Nat → Nat) (n : Nat) (pc' : Nat) (L' st' : List am_V) (n' : Nat) (μ' : am_M) : Prop :=
  ∀ (ad' : Nat → Nat) (cls' : Array Slot) (H' : Heap) (locs' : List Loc), (∀ i, i < n → ad' i = ad i) → am_H D dA b A s ad' n' μ' H' locs' → am_L b ad' L' cls' (am_ml k) → am_oks n' L' → am_oks n' st' → W p l e R s m args below meth c H' locs' (n' - n0) (am_sl n' - am_sl n0) Q (F0 m pc' cls' (st'.map (am_cv b ad')))
theorem am_kind_pos {i : Int} {q : Nat × Nat} (h : am_kind i = q) (hq : q.1 ≠ 9) : 0 ≤ i := by
  unfold am_kind at h
  split at h
  · rw [← h] at hq; exact absurd rfl hq
  · omega
theorem am_go_inv {pc : Nat} {off : Int} {L st : List am_V} {n : Nat} {μ : am_M} {q : am_R} (h : am_go pc off L st n μ = some q) : ∃ tgt : Nat, (pc : Int) + off = (tgt : Int) ∧ q = .inl (tgt, L, st, n, μ) := by
  unfold am_go at h
  split at h
  · cases h
    exact ⟨_, by omega, rfl⟩
  · cases h
theorem am_bin_inv {t r : Nat} {f : Int → Int → Int} {pc : Nat} {L st : List am_V} {n : Nat} {μ : am_M} {q : am_R} (h : am_bin t r f pc L st n μ = some q) : ∃ (x y : Int) (rest : List am_V), st = (t, y) :: (t, x) :: rest ∧ q = .inl (pc + 1, L, (r, f x y) :: rest, n, μ) := by
  unfold am_bin at h
  split at h
  · rename_i y x rest
    split at h
    · rename_i hh
      obtain ⟨h1, h2⟩ := hh
      cases h
      obtain ⟨y1, y2⟩ := y
      obtain ⟨x1, x2⟩ := x
      cases h1; cases h2
      exact ⟨x2, y2, rest, rfl, rfl⟩
    · cases h
  · cases h
theorem am_un_inv {t r : Nat} {f : Int → Int} {pc : Nat} {L st : List am_V} {n : Nat} {μ : am_M} {q : am_R} (h : am_un t r f pc L st n μ = some q) : ∃ (x : Int) (rest : List am_V), st = (t, x) :: rest ∧ q = .inl (pc + 1, L, (r, f x) :: rest, n, μ) := by
  unfold am_un at h
  split at h
  · rename_i x rest
    split at h
    · rename_i h1
      cases h
      obtain ⟨x1, x2⟩ := x
      cases h1
      exact ⟨x2, rest, rfl, rfl⟩
    · cases h
  · cases h
theorem am_ld_inv {t pc' i : Nat} {L st : List am_V} {n : Nat} {μ : am_M} {q : am_R} (h : am_ld t pc' i L st n μ = some q) : ∃ x : Int, L[i]? = some (t, x) ∧ q = .inl (pc', L, (t, x) :: st, n, μ) := by
  unfold am_ld at h
  split at h
  · rename_i v hv
    split at h
    · rename_i h1
      cases h
      obtain ⟨v1, v2⟩ := v
      cases h1
      exact ⟨v2, hv, rfl⟩
    · cases h
  · cases h
theorem am_lda_inv {pc' i : Nat} {L st : List am_V} {n : Nat} {μ : am_M} {q : am_R} (h : am_lda pc' i L st n μ = some q) : ∃ v : am_V, L[i]? = some v ∧ (v.1 = 2 ∨ v.1 = 3) ∧ q = .inl (pc', L, v :: st, n, μ) := by
  unfold am_lda at h
  split at h
  · rename_i v hv
    split at h
    · rename_i h1
      cases h
      exact ⟨v, hv, h1, rfl⟩
    · cases h
  · cases h
theorem am_st1_inv {k t pc' i : Nat} {L st : List am_V} {n : Nat} {μ : am_M} {q : am_R} (h : am_st1 k t pc' i L st n μ = some q) : ∃ (x : Int) (rest : List am_V), st = (t, x) :: rest ∧ i < am_ml k ∧ q = .inl (pc', am_sto L i (t, x), rest, n, μ) := by
  unfold am_st1 at h
  split at h
  · rename_i v rest
    split at h
    · rename_i h1
      obtain ⟨h1, h2⟩ := h1
      cases h
      obtain ⟨v1, v2⟩ := v
      cases h1
      exact ⟨v2, rest, rfl, h2, rfl⟩
    · cases h
  · cases h
theorem am_st2_inv {k pc' i : Nat} {L st : List am_V} {n : Nat} {μ : am_M} {q : am_R} (h : am_st2 k pc' i L st n μ = some q) : ∃ (x : Int) (rest : List am_V), st = (1, x) :: rest ∧ i + 1 < am_ml k ∧ q = .inl (pc', am_sto2 L i (1, x), rest, n, μ) := by
  unfold am_st2 at h
  split at h
  · rename_i v rest
    split at h
    · rename_i h1
      obtain ⟨h1, h2⟩ := h1
      cases h
      obtain ⟨v1, v2⟩ := v
      cases h1
      exact ⟨v2, rest, rfl, h2, rfl⟩
    · cases h
  · cases h
theorem am_cv0 (b : Nat) (ad : Nat → Nat) (x : Int) : am_cv b ad (0, x) = .int (Int32.ofInt x) := rfl
theorem am_cv1 (b : Nat) (ad : Nat → Nat) (x : Int) : am_cv b ad (1, x) = .long (Int64.ofInt x) := rfl
theorem am_cv2 (b : Nat) (ad : Nat → Nat) (x : Int) : am_cv b ad (2, x) = va_rf (am_rf ad x) := rfl
theorem am_cv2p (b : Nat) (ad : Nat → Nat) {x : Int} (h : 0 ≤ x) : am_cv b ad (2, x) = .ref (ad x.toNat) := by
  rw [am_cv2]
  unfold am_rf
  rw [if_neg (by omega)]
  rfl
theorem am_cv2n (b : Nat) (ad : Nat → Nat) {x : Int} (h : x < 0) : am_cv b ad (2, x) = .null := by
  rw [am_cv2]
  unfold am_rf
  rw [if_pos h]
  rfl
theorem am_cvr {b : Nat} {ad : Nat → Nat} {v : am_V} (h : v.1 = 2 ∨ v.1 = 3) : am_cv b ad v = .null ∨ ∃ a, am_cv b ad v = .ref a := by
  obtain ⟨t, x⟩ := v
  rcases h with h | h
  · cases h
    by_cases hx : x < 0
    · exact Or.inl (am_cv2n b ad hx)
    · exact Or.inr ⟨_, am_cv2p b ad (by omega)⟩
  · cases h
    exact Or.inr ⟨b, rfl⟩

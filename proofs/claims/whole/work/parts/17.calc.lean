/-! THE CALCULUS over the abstract machine: AW: the run from here ends, and its end has Q -/
def AW (sc : am_Sc) (k pc : Nat) (L st : List am_V) (n : Nat) (μ : am_M) (Q : Option am_V → Nat → am_M → Prop) : Prop := ∃ (f : Nat) (r : Option am_V) (n' : Nat) (μ' : am_M), am_ex f sc k pc L st n μ = some (r, n', μ') ∧ Q r n' μ'
/-- a call's contract at its arguments -/
def AC (k : Nat) (as : List am_V) (n : Nat) (μ : am_M) (Q : Option am_V → Nat → am_M → Prop) : Prop := AW none k 0 (am_entry k as) [] n μ Q
/-- what a method is: bytes, class, locals, return type -/
def am_mi (k : Nat) (cc : ByteArray) (o ml : Nat) (rt : Option FieldType) : Prop := am_by k = cc ∧ am_cl k = o ∧ am_ml k = ml ∧ am_rt k = rt
theorem am_ex_more {f : Nat} : ∀ {sc : am_Sc} {k pc : Nat} {L st : List am_V} {n : Nat} {μ : am_M} {q : Option am_V × Nat × am_M}, am_ex f sc k pc L st n μ = some q → am_ex (f + 1) sc k pc L st n μ = some q := by
  induction f with
  | zero => intro sc k pc L st n μ q h; cases h
  | succ f ih =>
    intro sc k pc L st n μ q h
    rw [am_ex] at h
    rw [am_ex]
    cases hs : am_step sc k pc L st n μ with
    | none => rw [hs] at h; cases h
    | some z =>
      rw [hs] at h
      match z, h with
      | .inl (pc', L', st', n', μ'), h =>
        dsimp only at h ⊢
        by_cases hn : n ≤ n'
        · rw [if_pos hn] at h ⊢
          exact ih h
        · rw [if_neg hn] at h; cases h
      | .inr (.inl (k', as, rest)), h =>
        dsimp only at h ⊢
        cases hc : am_ex f none k' 0 (am_entry k' as) [] n μ with
        | none => rw [hc] at h; cases h
        | some y =>
          rw [hc] at h
          rw [ih hc]
          exact ih h
      | .inr (.inr r), h => exact h
theorem am_ex_le {f g : Nat} (hfg : f ≤ g) {sc : am_Sc} {k pc : Nat} {L st : List am_V} {n : Nat} {μ : am_M} {q : Option am_V × Nat × am_M} (h : am_ex f sc k pc L st n μ = some q) : am_ex g sc k pc L st n μ = some q := by
  induction hfg with
  | refl => exact h
  | step _ ih => exact am_ex_more ih
section
variable {sc : am_Sc} {k pc q : Nat} {L L' st : List am_V} {n : Nat} {μ : am_M} {Q : Option am_V → Nat → am_M → Prop} {cc : ByteArray} {o ml : Nat} {rt : Option FieldType}
theorem AW.mono {Q1 : Option am_V → Nat → am_M → Prop} (h : AW sc k pc L st n μ Q1) (hq : ∀ r n' μ', Q1 r n' μ' → Q r n' μ') : AW sc k pc L st n μ Q := by
  obtain ⟨f, r, n', μ', h1, h2⟩ := h
  exact ⟨f, r, n', μ', h1, hq r n' μ' h2⟩
theorem AC.of {as : List am_V} (hL : am_entry k as = L) (h : AW none k 0 L [] n μ Q) : AC k as n μ Q := by
  unfold AC
  rw [hL]
  exact h
theorem aw_stp {ins : Instr} {len : Nat} {st' : List am_V} {n' : Nat} {μ' : am_M} (hm : am_mi k cc o ml rt) (hd : decode cc pc = .ok (ins, len)) (hl : am_len_ok ins len = true) (hdo : am_do sc k pc ins L st n μ = some (.inl (q, L', st', n', μ'))) (hn : n ≤ n') (h : AW sc k q L' st' n' μ' Q) : AW sc k pc L st n μ Q := by
  obtain ⟨f, r, n2, μ2, h1, h2⟩ := h
  refine ⟨f + 1, r, n2, μ2, ?_, h2⟩
  rw [am_ex]
  have hs : am_step sc k pc L st n μ = some (.inl (q, L', st', n', μ')) := by
    unfold am_step
    rw [hm.1, hd]
    dsimp only
    rw [if_pos hl]
    exact hdo
  rw [hs]
  dsimp only
  rw [if_pos hn]
  exact h1
theorem aw_ret {ins : Instr} {len : Nat} {r : Option am_V} (hm : am_mi k cc o ml rt) (hd : decode cc pc = .ok (ins, len)) (hl : am_len_ok ins len = true) (hdo : am_do sc k pc ins L st n μ = some (.inr (.inr r))) (h : Q r n μ) : AW sc k pc L st n μ Q := by
  refine ⟨1, r, n, μ, ?_, h⟩
  rw [am_ex]
  have hs : am_step sc k pc L st n μ = some (.inr (.inr r)) := by
    unfold am_step
    rw [hm.1, hd]
    dsimp only
    rw [if_pos hl]
    exact hdo
  rw [hs]
theorem aw_cal {ins : Instr} {len k' : Nat} {as rest : List am_V} {Q1 : Option am_V → Nat → am_M → Prop} (hm : am_mi k cc o ml rt) (hd : decode cc pc = .ok (ins, len)) (hl : am_len_ok ins len = true) (hdo : am_do sc k pc ins L st n μ = some (.inr (.inl (k', as, rest)))) (hq : pc + 3 = q) (hc : AC k' as n μ Q1) (h : ∀ r n' μ', Q1 r n' μ' → AW sc k q L (r.toList ++ rest) n' μ' Q) : AW sc k pc L st n μ Q := by
  obtain ⟨f1, r1, n1, μ1, h1, h2⟩ := hc
  obtain ⟨f2, r2, n2, μ2, h3, h4⟩ := h r1 n1 μ1 h2
  refine ⟨max f1 f2 + 1, r2, n2, μ2, ?_, h4⟩
  rw [am_ex]
  have hs : am_step sc k pc L st n μ = some (.inr (.inl (k', as, rest))) := by
    unfold am_step
    rw [hm.1, hd]
    dsimp only
    rw [if_pos hl]
    exact hdo
  rw [hs]
  dsimp only
  rw [am_ex_le (Nat.le_max_left f1 f2) h1]
  dsimp only
  rw [hq]
  exact am_ex_le (Nat.le_max_right f1 f2) h3
theorem aw_iconst {i : Int} (hm : am_mi k cc o ml rt) (hd : decode cc pc = .ok (.iconst i, 1)) (hq : pc + 1 = q) (hi : decide (-32768 ≤ i ∧ i ≤ 32767) = true) (h : AW sc k q L ((0, i) :: st) n μ Q) : AW sc k pc L (st) n μ Q := by
  subst hq
  exact aw_stp hm hd rfl (if_pos (of_decide_eq_true hi)) (Nat.le_refl n) h
theorem aw_bipush {i : Int} (hm : am_mi k cc o ml rt) (hd : decode cc pc = .ok (.bipush i, 2)) (hq : pc + 2 = q) (hi : decide (-128 ≤ i ∧ i ≤ 127) = true) (h : AW sc k q L ((0, i) :: st) n μ Q) : AW sc k pc L (st) n μ Q := by
  subst hq
  exact aw_stp hm hd rfl (if_pos (of_decide_eq_true hi)) (Nat.le_refl n) h
theorem aw_sipush {i : Int} (hm : am_mi k cc o ml rt) (hd : decode cc pc = .ok (.sipush i, 3)) (hq : pc + 3 = q) (hi : decide (-32768 ≤ i ∧ i ≤ 32767) = true) (h : AW sc k q L ((0, i) :: st) n μ Q) : AW sc k pc L (st) n μ Q := by
  subst hq
  exact aw_stp hm hd rfl (if_pos (of_decide_eq_true hi)) (Nat.le_refl n) h
theorem aw_lconst {i : Fin 2} {x : Int} (hm : am_mi k cc o ml rt) (hd : decode cc pc = .ok (.lconst i, 1)) (hq : pc + 1 = q) (hx : ((i : Nat) : Int) = x) (h : AW sc k q L ((1, x) :: st) n μ Q) : AW sc k pc L (st) n μ Q := by
  subst hq
  exact aw_stp hm hd rfl (by subst hx; rfl) (Nat.le_refl n) h
theorem aw_ldc {idx w : Nat} {x : Int} (hm : am_mi k cc o ml rt) (hd : decode cc pc = .ok (.ldc idx, 2)) (hq : pc + 2 = q) (ht : am_ldcs.lookup (o, idx) = some (x, w)) (h : AW sc k q L ((0, x) :: st) n μ Q) : AW sc k pc L (st) n μ Q := by
  subst hq
  exact aw_stp hm hd rfl (by show (match am_ldcs.lookup (am_cl k, idx) with | some (x, _) => _ | none => none) = _; rw [hm.2.1, ht]) (Nat.le_refl n) h
theorem aw_ldc2 {idx w : Nat} {x : Int} (hm : am_mi k cc o ml rt) (hd : decode cc pc = .ok (.ldc2_w idx, 3)) (hq : pc + 3 = q) (ht : am_ldc2s.lookup (o, idx) = some (x, w)) (h : AW sc k q L ((1, x) :: st) n μ Q) : AW sc k pc L (st) n μ Q := by
  subst hq
  exact aw_stp hm hd rfl (by show (match am_ldc2s.lookup (am_cl k, idx) with | some (x, _) => _ | none => none) = _; rw [hm.2.1, ht]) (Nat.le_refl n) h
theorem aw_null  (hm : am_mi k cc o ml rt) (hd : decode cc pc = .ok (.aconst_null, 1)) (hq : pc + 1 = q)  (h : AW sc k q L ((2, -1) :: st) n μ Q) : AW sc k pc L (st) n μ Q := by
  subst hq
  exact aw_stp hm hd rfl (rfl) (Nat.le_refl n) h
theorem aw_iload {i : Nat} {x : Int} (hm : am_mi k cc o ml rt) (hd : decode cc pc = .ok (.iload i, 2)) (hq : pc + 2 = q) (hx : L[(i : Nat)]? = some (0, x)) (h : AW sc k q L ((0, x) :: st) n μ Q) : AW sc k pc L (st) n μ Q := by
  subst hq
  exact aw_stp hm hd rfl (by show am_ld 0 _ _ L st n μ = _; unfold am_ld; rw [hx]; rfl) (Nat.le_refl n) h
theorem aw_iload_n {i : Fin 4} {x : Int} (hm : am_mi k cc o ml rt) (hd : decode cc pc = .ok (.iload_n i, 1)) (hq : pc + 1 = q) (hx : L[(i : Nat)]? = some (0, x)) (h : AW sc k q L ((0, x) :: st) n μ Q) : AW sc k pc L (st) n μ Q := by
  subst hq
  exact aw_stp hm hd rfl (by show am_ld 0 _ _ L st n μ = _; unfold am_ld; rw [hx]; rfl) (Nat.le_refl n) h
theorem aw_lload {i : Nat} {x : Int} (hm : am_mi k cc o ml rt) (hd : decode cc pc = .ok (.lload i, 2)) (hq : pc + 2 = q) (hx : L[(i : Nat)]? = some (1, x)) (h : AW sc k q L ((1, x) :: st) n μ Q) : AW sc k pc L (st) n μ Q := by
  subst hq
  exact aw_stp hm hd rfl (by show am_ld 1 _ _ L st n μ = _; unfold am_ld; rw [hx]; rfl) (Nat.le_refl n) h
theorem aw_lload_n {i : Fin 4} {x : Int} (hm : am_mi k cc o ml rt) (hd : decode cc pc = .ok (.lload_n i, 1)) (hq : pc + 1 = q) (hx : L[(i : Nat)]? = some (1, x)) (h : AW sc k q L ((1, x) :: st) n μ Q) : AW sc k pc L (st) n μ Q := by
  subst hq
  exact aw_stp hm hd rfl (by show am_ld 1 _ _ L st n μ = _; unfold am_ld; rw [hx]; rfl) (Nat.le_refl n) h
theorem aw_aload {i : Nat} {x : Int} (hm : am_mi k cc o ml rt) (hd : decode cc pc = .ok (.aload i, 2)) (hq : pc + 2 = q) (hx : L[(i : Nat)]? = some (2, x)) (h : AW sc k q L ((2, x) :: st) n μ Q) : AW sc k pc L (st) n μ Q := by
  subst hq
  exact aw_stp hm hd rfl (by show am_lda _ _ L st n μ = _; unfold am_lda; rw [hx]; rfl) (Nat.le_refl n) h
theorem aw_aload_n {i : Fin 4} {x : Int} (hm : am_mi k cc o ml rt) (hd : decode cc pc = .ok (.aload_n i, 1)) (hq : pc + 1 = q) (hx : L[(i : Nat)]? = some (2, x)) (h : AW sc k q L ((2, x) :: st) n μ Q) : AW sc k pc L (st) n μ Q := by
  subst hq
  exact aw_stp hm hd rfl (by show am_lda _ _ L st n μ = _; unfold am_lda; rw [hx]; rfl) (Nat.le_refl n) h
theorem aw_aload_s {i : Fin 4} {x : Int} (hm : am_mi k cc o ml rt) (hd : decode cc pc = .ok (.aload_n i, 1)) (hq : pc + 1 = q) (hx : L[(i : Nat)]? = some (3, x)) (h : AW sc k q L ((3, x) :: st) n μ Q) : AW sc k pc L (st) n μ Q := by
  subst hq
  exact aw_stp hm hd rfl (by show am_lda _ _ L st n μ = _; unfold am_lda; rw [hx]; rfl) (Nat.le_refl n) h
theorem aw_istore {i : Nat} {x : Int} (hm : am_mi k cc o ml rt) (hd : decode cc pc = .ok (.istore i, 2)) (hq : pc + 2 = q) (hi : (i : Nat) < ml) (hL : am_sto L i (0, x) = L') (h : AW sc k q L' (st) n μ Q) : AW sc k pc L ((0, x) :: st) n μ Q := by
  subst hq
  exact aw_stp hm hd rfl (by show am_st1 k 0 (pc + 2) i L ((0, x) :: st) n μ = _; unfold am_st1; dsimp only; rw [if_pos ⟨rfl, by rw [hm.2.2.1]; exact hi⟩, hL]) (Nat.le_refl n) h
theorem aw_istore_n {i : Fin 4} {x : Int} (hm : am_mi k cc o ml rt) (hd : decode cc pc = .ok (.istore_n i, 1)) (hq : pc + 1 = q) (hi : (i : Nat) < ml) (hL : am_sto L i (0, x) = L') (h : AW sc k q L' (st) n μ Q) : AW sc k pc L ((0, x) :: st) n μ Q := by
  subst hq
  exact aw_stp hm hd rfl (by show am_st1 k 0 (pc + 1) i L ((0, x) :: st) n μ = _; unfold am_st1; dsimp only; rw [if_pos ⟨rfl, by rw [hm.2.2.1]; exact hi⟩, hL]) (Nat.le_refl n) h
theorem aw_astore {i : Nat} {x : Int} (hm : am_mi k cc o ml rt) (hd : decode cc pc = .ok (.astore i, 2)) (hq : pc + 2 = q) (hi : (i : Nat) < ml) (hL : am_sto L i (2, x) = L') (h : AW sc k q L' (st) n μ Q) : AW sc k pc L ((2, x) :: st) n μ Q := by
  subst hq
  exact aw_stp hm hd rfl (by show am_st1 k 2 (pc + 2) i L ((2, x) :: st) n μ = _; unfold am_st1; dsimp only; rw [if_pos ⟨rfl, by rw [hm.2.2.1]; exact hi⟩, hL]) (Nat.le_refl n) h
theorem aw_astore_n {i : Fin 4} {x : Int} (hm : am_mi k cc o ml rt) (hd : decode cc pc = .ok (.astore_n i, 1)) (hq : pc + 1 = q) (hi : (i : Nat) < ml) (hL : am_sto L i (2, x) = L') (h : AW sc k q L' (st) n μ Q) : AW sc k pc L ((2, x) :: st) n μ Q := by
  subst hq
  exact aw_stp hm hd rfl (by show am_st1 k 2 (pc + 1) i L ((2, x) :: st) n μ = _; unfold am_st1; dsimp only; rw [if_pos ⟨rfl, by rw [hm.2.2.1]; exact hi⟩, hL]) (Nat.le_refl n) h
theorem aw_lstore {i : Nat} {x : Int} (hm : am_mi k cc o ml rt) (hd : decode cc pc = .ok (.lstore i, 2)) (hq : pc + 2 = q) (hi : (i : Nat) + 1 < ml) (hL : am_sto2 L i (1, x) = L') (h : AW sc k q L' (st) n μ Q) : AW sc k pc L ((1, x) :: st) n μ Q := by
  subst hq
  exact aw_stp hm hd rfl (by show am_st2 k (pc + 2) i L ((1, x) :: st) n μ = _; unfold am_st2; dsimp only; rw [if_pos ⟨rfl, by rw [hm.2.2.1]; exact hi⟩, hL]) (Nat.le_refl n) h
theorem aw_lstore_n {i : Fin 4} {x : Int} (hm : am_mi k cc o ml rt) (hd : decode cc pc = .ok (.lstore_n i, 1)) (hq : pc + 1 = q) (hi : (i : Nat) + 1 < ml) (hL : am_sto2 L i (1, x) = L') (h : AW sc k q L' (st) n μ Q) : AW sc k pc L ((1, x) :: st) n μ Q := by
  subst hq
  exact aw_stp hm hd rfl (by show am_st2 k (pc + 1) i L ((1, x) :: st) n μ = _; unfold am_st2; dsimp only; rw [if_pos ⟨rfl, by rw [hm.2.2.1]; exact hi⟩, hL]) (Nat.le_refl n) h
theorem aw_iinc {i : Nat} {d x : Int} (hm : am_mi k cc o ml rt) (hd : decode cc pc = .ok (.iinc i d, 3)) (hq : pc + 3 = q) (hx : L[i]? = some (0, x)) (hi : i < ml) (h1 : -2147483648 ≤ x + d) (h2 : x + d < 2147483648) (hL : am_sto L i (0, x + d) = L') (h : AW sc k q L' (st) n μ Q) : AW sc k pc L (st) n μ Q := by
  subst hq
  exact aw_stp hm hd rfl (by show (match L[i]? with | some v => _ | none => none) = _; rw [hx]; dsimp only; rw [if_pos ⟨rfl, by rw [hm.2.2.1]; exact hi⟩, am_w32_id ⟨h1, h2⟩, hL]) (Nat.le_refl n) h
theorem aw_iadd {x y : Int} (hm : am_mi k cc o ml rt) (hd : decode cc pc = .ok (.iadd, 1)) (hq : pc + 1 = q) (h1 : -2147483648 ≤ x + y) (h2 : x + y < 2147483648) (h : AW sc k q L ((0, x + y) :: st) n μ Q) : AW sc k pc L ((0, y) :: (0, x) :: st) n μ Q := by
  subst hq
  exact aw_stp hm hd rfl (by show some (Sum.inl (_, _, (0, am_w32 (x + y)) :: _, _, _)) = _; rw [am_w32_id ⟨h1, h2⟩]) (Nat.le_refl n) h
theorem aw_isub {x y : Int} (hm : am_mi k cc o ml rt) (hd : decode cc pc = .ok (.isub, 1)) (hq : pc + 1 = q) (h1 : -2147483648 ≤ x - y) (h2 : x - y < 2147483648) (h : AW sc k q L ((0, x - y) :: st) n μ Q) : AW sc k pc L ((0, y) :: (0, x) :: st) n μ Q := by
  subst hq
  exact aw_stp hm hd rfl (by show some (Sum.inl (_, _, (0, am_w32 (x - y)) :: _, _, _)) = _; rw [am_w32_id ⟨h1, h2⟩]) (Nat.le_refl n) h
theorem aw_imul {x y : Int} (hm : am_mi k cc o ml rt) (hd : decode cc pc = .ok (.imul, 1)) (hq : pc + 1 = q) (h1 : -2147483648 ≤ x * y) (h2 : x * y < 2147483648) (h : AW sc k q L ((0, x * y) :: st) n μ Q) : AW sc k pc L ((0, y) :: (0, x) :: st) n μ Q := by
  subst hq
  exact aw_stp hm hd rfl (by show some (Sum.inl (_, _, (0, am_w32 (x * y)) :: _, _, _)) = _; rw [am_w32_id ⟨h1, h2⟩]) (Nat.le_refl n) h
theorem aw_ladd {x y : Int} (hm : am_mi k cc o ml rt) (hd : decode cc pc = .ok (.ladd, 1)) (hq : pc + 1 = q) (h1 : -9223372036854775808 ≤ x + y) (h2 : x + y < 9223372036854775808) (h : AW sc k q L ((1, x + y) :: st) n μ Q) : AW sc k pc L ((1, y) :: (1, x) :: st) n μ Q := by
  subst hq
  exact aw_stp hm hd rfl (by show some (Sum.inl (_, _, (1, am_w64 (x + y)) :: _, _, _)) = _; rw [am_w64_id ⟨h1, h2⟩]) (Nat.le_refl n) h
theorem aw_lmul {x y : Int} (hm : am_mi k cc o ml rt) (hd : decode cc pc = .ok (.lmul, 1)) (hq : pc + 1 = q) (h1 : -9223372036854775808 ≤ x * y) (h2 : x * y < 9223372036854775808) (h : AW sc k q L ((1, x * y) :: st) n μ Q) : AW sc k pc L ((1, y) :: (1, x) :: st) n μ Q := by
  subst hq
  exact aw_stp hm hd rfl (by show some (Sum.inl (_, _, (1, am_w64 (x * y)) :: _, _, _)) = _; rw [am_w64_id ⟨h1, h2⟩]) (Nat.le_refl n) h
theorem aw_ineg {x : Int} (hm : am_mi k cc o ml rt) (hd : decode cc pc = .ok (.ineg, 1)) (hq : pc + 1 = q) (h1 : -2147483648 ≤ -x) (h2 : -x < 2147483648) (h : AW sc k q L ((0, -x) :: st) n μ Q) : AW sc k pc L ((0, x) :: st) n μ Q := by
  subst hq
  exact aw_stp hm hd rfl (by show some (Sum.inl (_, _, (0, am_w32 (-x)) :: _, _, _)) = _; rw [am_w32_id ⟨h1, h2⟩]) (Nat.le_refl n) h
theorem aw_iand {x y v : Int} (hm : am_mi k cc o ml rt) (hd : decode cc pc = .ok (.iand, 1)) (hq : pc + 1 = q) (hv : (Int32.ofInt x &&& Int32.ofInt y).toInt = v) (h : AW sc k q L ((0, v) :: st) n μ Q) : AW sc k pc L ((0, y) :: (0, x) :: st) n μ Q := by
  subst hq
  exact aw_stp hm hd rfl (by subst hv; rfl) (Nat.le_refl n) h
theorem aw_ior {x y v : Int} (hm : am_mi k cc o ml rt) (hd : decode cc pc = .ok (.ior, 1)) (hq : pc + 1 = q) (hv : (Int32.ofInt x ||| Int32.ofInt y).toInt = v) (h : AW sc k q L ((0, v) :: st) n μ Q) : AW sc k pc L ((0, y) :: (0, x) :: st) n μ Q := by
  subst hq
  exact aw_stp hm hd rfl (by subst hv; rfl) (Nat.le_refl n) h
theorem aw_ishl {x y v : Int} (hm : am_mi k cc o ml rt) (hd : decode cc pc = .ok (.ishl, 1)) (hq : pc + 1 = q) (hv : (Int32.ofInt x <<< (Int32.ofInt y &&& 31)).toInt = v) (h : AW sc k q L ((0, v) :: st) n μ Q) : AW sc k pc L ((0, y) :: (0, x) :: st) n μ Q := by
  subst hq
  exact aw_stp hm hd rfl (by subst hv; rfl) (Nat.le_refl n) h
theorem aw_ishr {x y v : Int} (hm : am_mi k cc o ml rt) (hd : decode cc pc = .ok (.ishr, 1)) (hq : pc + 1 = q) (hv : (Int32.ofInt x >>> (Int32.ofInt y &&& 31)).toInt = v) (h : AW sc k q L ((0, v) :: st) n μ Q) : AW sc k pc L ((0, y) :: (0, x) :: st) n μ Q := by
  subst hq
  exact aw_stp hm hd rfl (by subst hv; rfl) (Nat.le_refl n) h
theorem aw_lcmp {x y : Int} (hm : am_mi k cc o ml rt) (hd : decode cc pc = .ok (.lcmp, 1)) (hq : pc + 1 = q)  (h : AW sc k q L ((0, am_cmp x y) :: st) n μ Q) : AW sc k pc L ((1, y) :: (1, x) :: st) n μ Q := by
  subst hq
  exact aw_stp hm hd rfl (rfl) (Nat.le_refl n) h
theorem aw_i2l {x : Int} (hm : am_mi k cc o ml rt) (hd : decode cc pc = .ok (.i2l, 1)) (hq : pc + 1 = q)  (h : AW sc k q L ((1, x) :: st) n μ Q) : AW sc k pc L ((0, x) :: st) n μ Q := by
  subst hq
  exact aw_stp hm hd rfl (rfl) (Nat.le_refl n) h
theorem aw_l2i {x : Int} (hm : am_mi k cc o ml rt) (hd : decode cc pc = .ok (.l2i, 1)) (hq : pc + 1 = q) (h1 : -2147483648 ≤ x) (h2 : x < 2147483648) (h : AW sc k q L ((0, x) :: st) n μ Q) : AW sc k pc L ((1, x) :: st) n μ Q := by
  subst hq
  exact aw_stp hm hd rfl (by show some (Sum.inl (_, _, (0, am_w32 x) :: _, _, _)) = _; rw [am_w32_id ⟨h1, h2⟩]) (Nat.le_refl n) h
theorem aw_dup {x : Int} (hm : am_mi k cc o ml rt) (hd : decode cc pc = .ok (.dup, 1)) (hq : pc + 1 = q)  (h : AW sc k q L ((0, x) :: (0, x) :: st) n μ Q) : AW sc k pc L ((0, x) :: st) n μ Q := by
  subst hq
  exact aw_stp hm hd rfl (rfl) (Nat.le_refl n) h
theorem aw_dupr {x : Int} (hm : am_mi k cc o ml rt) (hd : decode cc pc = .ok (.dup, 1)) (hq : pc + 1 = q)  (h : AW sc k q L ((2, x) :: (2, x) :: st) n μ Q) : AW sc k pc L ((2, x) :: st) n μ Q := by
  subst hq
  exact aw_stp hm hd rfl (rfl) (Nat.le_refl n) h
theorem aw_dup_x1 {x y : Int} (hm : am_mi k cc o ml rt) (hd : decode cc pc = .ok (.dup_x1, 1)) (hq : pc + 1 = q)  (h : AW sc k q L ((0, x) :: (2, y) :: (0, x) :: st) n μ Q) : AW sc k pc L ((0, x) :: (2, y) :: st) n μ Q := by
  subst hq
  exact aw_stp hm hd rfl (rfl) (Nat.le_refl n) h
theorem aw_dup2 {x y : Int} (hm : am_mi k cc o ml rt) (hd : decode cc pc = .ok (.dup2, 1)) (hq : pc + 1 = q)  (h : AW sc k q L ((0, x) :: (2, y) :: (0, x) :: (2, y) :: st) n μ Q) : AW sc k pc L ((0, x) :: (2, y) :: st) n μ Q := by
  subst hq
  exact aw_stp hm hd rfl (rfl) (Nat.le_refl n) h
theorem aw_pop {x : Int} (hm : am_mi k cc o ml rt) (hd : decode cc pc = .ok (.pop, 1)) (hq : pc + 1 = q)  (h : AW sc k q L (st) n μ Q) : AW sc k pc L ((0, x) :: st) n μ Q := by
  subst hq
  exact aw_stp hm hd rfl (rfl) (Nat.le_refl n) h
theorem aw_popr {x : Int} (hm : am_mi k cc o ml rt) (hd : decode cc pc = .ok (.pop, 1)) (hq : pc + 1 = q)  (h : AW sc k q L (st) n μ Q) : AW sc k pc L ((2, x) :: st) n μ Q := by
  subst hq
  exact aw_stp hm hd rfl (rfl) (Nat.le_refl n) h
theorem aw_pop2 {x : Int} (hm : am_mi k cc o ml rt) (hd : decode cc pc = .ok (.pop2, 1)) (hq : pc + 1 = q)  (h : AW sc k q L (st) n μ Q) : AW sc k pc L ((1, x) :: st) n μ Q := by
  subst hq
  exact aw_stp hm hd rfl (rfl) (Nat.le_refl n) h
theorem aw_icmp_eq {x y off : Int} {tgt : Nat} (hm : am_mi k cc o ml rt) (hd : decode cc pc = .ok (.if_icmp .eq off, 3)) (hq : pc + 3 = q) (ht : (pc : Int) + off = (tgt : Int)) (kt : x = y → AW sc k tgt L st n μ Q) (kf : ¬ (x = y) → AW sc k q L st n μ Q) : AW sc k pc L ((0, y) :: (0, x) :: st) n μ Q := by
  subst hq
  by_cases hc : x = y
  · refine aw_stp hm hd rfl ?_ (Nat.le_refl n) (kt hc)
    show am_if (am_cc .eq x y = true) pc off L st n μ = _
    unfold am_if
    rw [if_pos (by omega), if_pos (show am_cc .eq x y = true from decide_eq_true hc), show ((pc : Int) + off).toNat = tgt by omega]
  · refine aw_stp hm hd rfl ?_ (Nat.le_refl n) (kf hc)
    show am_if (am_cc .eq x y = true) pc off L st n μ = _
    unfold am_if
    rw [if_pos (by omega), if_neg (show ¬ am_cc .eq x y = true from fun z => hc (of_decide_eq_true z))]
theorem aw_if_eq {x off : Int} {tgt : Nat} (hm : am_mi k cc o ml rt) (hd : decode cc pc = .ok (.ifCond .eq off, 3)) (hq : pc + 3 = q) (ht : (pc : Int) + off = (tgt : Int)) (kt : x = 0 → AW sc k tgt L st n μ Q) (kf : ¬ (x = 0) → AW sc k q L st n μ Q) : AW sc k pc L ((0, x) :: st) n μ Q := by
  subst hq
  by_cases hc : x = 0
  · refine aw_stp hm hd rfl ?_ (Nat.le_refl n) (kt hc)
    show am_if (am_cc .eq x 0 = true) pc off L st n μ = _
    unfold am_if
    rw [if_pos (by omega), if_pos (show am_cc .eq x 0 = true from decide_eq_true hc), show ((pc : Int) + off).toNat = tgt by omega]
  · refine aw_stp hm hd rfl ?_ (Nat.le_refl n) (kf hc)
    show am_if (am_cc .eq x 0 = true) pc off L st n μ = _
    unfold am_if
    rw [if_pos (by omega), if_neg (show ¬ am_cc .eq x 0 = true from fun z => hc (of_decide_eq_true z))]
theorem aw_icmp_ne {x y off : Int} {tgt : Nat} (hm : am_mi k cc o ml rt) (hd : decode cc pc = .ok (.if_icmp .ne off, 3)) (hq : pc + 3 = q) (ht : (pc : Int) + off = (tgt : Int)) (kt : x ≠ y → AW sc k tgt L st n μ Q) (kf : ¬ (x ≠ y) → AW sc k q L st n μ Q) : AW sc k pc L ((0, y) :: (0, x) :: st) n μ Q := by
  subst hq
  by_cases hc : x ≠ y
  · refine aw_stp hm hd rfl ?_ (Nat.le_refl n) (kt hc)
    show am_if (am_cc .ne x y = true) pc off L st n μ = _
    unfold am_if
    rw [if_pos (by omega), if_pos (show am_cc .ne x y = true from decide_eq_true hc), show ((pc : Int) + off).toNat = tgt by omega]
  · refine aw_stp hm hd rfl ?_ (Nat.le_refl n) (kf hc)
    show am_if (am_cc .ne x y = true) pc off L st n μ = _
    unfold am_if
    rw [if_pos (by omega), if_neg (show ¬ am_cc .ne x y = true from fun z => hc (of_decide_eq_true z))]
theorem aw_if_ne {x off : Int} {tgt : Nat} (hm : am_mi k cc o ml rt) (hd : decode cc pc = .ok (.ifCond .ne off, 3)) (hq : pc + 3 = q) (ht : (pc : Int) + off = (tgt : Int)) (kt : x ≠ 0 → AW sc k tgt L st n μ Q) (kf : ¬ (x ≠ 0) → AW sc k q L st n μ Q) : AW sc k pc L ((0, x) :: st) n μ Q := by
  subst hq
  by_cases hc : x ≠ 0
  · refine aw_stp hm hd rfl ?_ (Nat.le_refl n) (kt hc)
    show am_if (am_cc .ne x 0 = true) pc off L st n μ = _
    unfold am_if
    rw [if_pos (by omega), if_pos (show am_cc .ne x 0 = true from decide_eq_true hc), show ((pc : Int) + off).toNat = tgt by omega]
  · refine aw_stp hm hd rfl ?_ (Nat.le_refl n) (kf hc)
    show am_if (am_cc .ne x 0 = true) pc off L st n μ = _
    unfold am_if
    rw [if_pos (by omega), if_neg (show ¬ am_cc .ne x 0 = true from fun z => hc (of_decide_eq_true z))]
theorem aw_icmp_lt {x y off : Int} {tgt : Nat} (hm : am_mi k cc o ml rt) (hd : decode cc pc = .ok (.if_icmp .lt off, 3)) (hq : pc + 3 = q) (ht : (pc : Int) + off = (tgt : Int)) (kt : x < y → AW sc k tgt L st n μ Q) (kf : ¬ (x < y) → AW sc k q L st n μ Q) : AW sc k pc L ((0, y) :: (0, x) :: st) n μ Q := by
  subst hq
  by_cases hc : x < y
  · refine aw_stp hm hd rfl ?_ (Nat.le_refl n) (kt hc)
    show am_if (am_cc .lt x y = true) pc off L st n μ = _
    unfold am_if
    rw [if_pos (by omega), if_pos (show am_cc .lt x y = true from decide_eq_true hc), show ((pc : Int) + off).toNat = tgt by omega]
  · refine aw_stp hm hd rfl ?_ (Nat.le_refl n) (kf hc)
    show am_if (am_cc .lt x y = true) pc off L st n μ = _
    unfold am_if
    rw [if_pos (by omega), if_neg (show ¬ am_cc .lt x y = true from fun z => hc (of_decide_eq_true z))]
theorem aw_if_lt {x off : Int} {tgt : Nat} (hm : am_mi k cc o ml rt) (hd : decode cc pc = .ok (.ifCond .lt off, 3)) (hq : pc + 3 = q) (ht : (pc : Int) + off = (tgt : Int)) (kt : x < 0 → AW sc k tgt L st n μ Q) (kf : ¬ (x < 0) → AW sc k q L st n μ Q) : AW sc k pc L ((0, x) :: st) n μ Q := by
  subst hq
  by_cases hc : x < 0
  · refine aw_stp hm hd rfl ?_ (Nat.le_refl n) (kt hc)
    show am_if (am_cc .lt x 0 = true) pc off L st n μ = _
    unfold am_if
    rw [if_pos (by omega), if_pos (show am_cc .lt x 0 = true from decide_eq_true hc), show ((pc : Int) + off).toNat = tgt by omega]
  · refine aw_stp hm hd rfl ?_ (Nat.le_refl n) (kf hc)
    show am_if (am_cc .lt x 0 = true) pc off L st n μ = _
    unfold am_if
    rw [if_pos (by omega), if_neg (show ¬ am_cc .lt x 0 = true from fun z => hc (of_decide_eq_true z))]
theorem aw_icmp_ge {x y off : Int} {tgt : Nat} (hm : am_mi k cc o ml rt) (hd : decode cc pc = .ok (.if_icmp .ge off, 3)) (hq : pc + 3 = q) (ht : (pc : Int) + off = (tgt : Int)) (kt : y ≤ x → AW sc k tgt L st n μ Q) (kf : ¬ (y ≤ x) → AW sc k q L st n μ Q) : AW sc k pc L ((0, y) :: (0, x) :: st) n μ Q := by
  subst hq
  by_cases hc : y ≤ x
  · refine aw_stp hm hd rfl ?_ (Nat.le_refl n) (kt hc)
    show am_if (am_cc .ge x y = true) pc off L st n μ = _
    unfold am_if
    rw [if_pos (by omega), if_pos (show am_cc .ge x y = true from decide_eq_true hc), show ((pc : Int) + off).toNat = tgt by omega]
  · refine aw_stp hm hd rfl ?_ (Nat.le_refl n) (kf hc)
    show am_if (am_cc .ge x y = true) pc off L st n μ = _
    unfold am_if
    rw [if_pos (by omega), if_neg (show ¬ am_cc .ge x y = true from fun z => hc (of_decide_eq_true z))]
theorem aw_if_ge {x off : Int} {tgt : Nat} (hm : am_mi k cc o ml rt) (hd : decode cc pc = .ok (.ifCond .ge off, 3)) (hq : pc + 3 = q) (ht : (pc : Int) + off = (tgt : Int)) (kt : 0 ≤ x → AW sc k tgt L st n μ Q) (kf : ¬ (0 ≤ x) → AW sc k q L st n μ Q) : AW sc k pc L ((0, x) :: st) n μ Q := by
  subst hq
  by_cases hc : 0 ≤ x
  · refine aw_stp hm hd rfl ?_ (Nat.le_refl n) (kt hc)
    show am_if (am_cc .ge x 0 = true) pc off L st n μ = _
    unfold am_if
    rw [if_pos (by omega), if_pos (show am_cc .ge x 0 = true from decide_eq_true hc), show ((pc : Int) + off).toNat = tgt by omega]
  · refine aw_stp hm hd rfl ?_ (Nat.le_refl n) (kf hc)
    show am_if (am_cc .ge x 0 = true) pc off L st n μ = _
    unfold am_if
    rw [if_pos (by omega), if_neg (show ¬ am_cc .ge x 0 = true from fun z => hc (of_decide_eq_true z))]
theorem aw_icmp_gt {x y off : Int} {tgt : Nat} (hm : am_mi k cc o ml rt) (hd : decode cc pc = .ok (.if_icmp .gt off, 3)) (hq : pc + 3 = q) (ht : (pc : Int) + off = (tgt : Int)) (kt : y < x → AW sc k tgt L st n μ Q) (kf : ¬ (y < x) → AW sc k q L st n μ Q) : AW sc k pc L ((0, y) :: (0, x) :: st) n μ Q := by
  subst hq
  by_cases hc : y < x
  · refine aw_stp hm hd rfl ?_ (Nat.le_refl n) (kt hc)
    show am_if (am_cc .gt x y = true) pc off L st n μ = _
    unfold am_if
    rw [if_pos (by omega), if_pos (show am_cc .gt x y = true from decide_eq_true hc), show ((pc : Int) + off).toNat = tgt by omega]
  · refine aw_stp hm hd rfl ?_ (Nat.le_refl n) (kf hc)
    show am_if (am_cc .gt x y = true) pc off L st n μ = _
    unfold am_if
    rw [if_pos (by omega), if_neg (show ¬ am_cc .gt x y = true from fun z => hc (of_decide_eq_true z))]
theorem aw_if_gt {x off : Int} {tgt : Nat} (hm : am_mi k cc o ml rt) (hd : decode cc pc = .ok (.ifCond .gt off, 3)) (hq : pc + 3 = q) (ht : (pc : Int) + off = (tgt : Int)) (kt : 0 < x → AW sc k tgt L st n μ Q) (kf : ¬ (0 < x) → AW sc k q L st n μ Q) : AW sc k pc L ((0, x) :: st) n μ Q := by
  subst hq
  by_cases hc : 0 < x
  · refine aw_stp hm hd rfl ?_ (Nat.le_refl n) (kt hc)
    show am_if (am_cc .gt x 0 = true) pc off L st n μ = _
    unfold am_if
    rw [if_pos (by omega), if_pos (show am_cc .gt x 0 = true from decide_eq_true hc), show ((pc : Int) + off).toNat = tgt by omega]
  · refine aw_stp hm hd rfl ?_ (Nat.le_refl n) (kf hc)
    show am_if (am_cc .gt x 0 = true) pc off L st n μ = _
    unfold am_if
    rw [if_pos (by omega), if_neg (show ¬ am_cc .gt x 0 = true from fun z => hc (of_decide_eq_true z))]
theorem aw_icmp_le {x y off : Int} {tgt : Nat} (hm : am_mi k cc o ml rt) (hd : decode cc pc = .ok (.if_icmp .le off, 3)) (hq : pc + 3 = q) (ht : (pc : Int) + off = (tgt : Int)) (kt : x ≤ y → AW sc k tgt L st n μ Q) (kf : ¬ (x ≤ y) → AW sc k q L st n μ Q) : AW sc k pc L ((0, y) :: (0, x) :: st) n μ Q := by
  subst hq
  by_cases hc : x ≤ y
  · refine aw_stp hm hd rfl ?_ (Nat.le_refl n) (kt hc)
    show am_if (am_cc .le x y = true) pc off L st n μ = _
    unfold am_if
    rw [if_pos (by omega), if_pos (show am_cc .le x y = true from decide_eq_true hc), show ((pc : Int) + off).toNat = tgt by omega]
  · refine aw_stp hm hd rfl ?_ (Nat.le_refl n) (kf hc)
    show am_if (am_cc .le x y = true) pc off L st n μ = _
    unfold am_if
    rw [if_pos (by omega), if_neg (show ¬ am_cc .le x y = true from fun z => hc (of_decide_eq_true z))]
theorem aw_if_le {x off : Int} {tgt : Nat} (hm : am_mi k cc o ml rt) (hd : decode cc pc = .ok (.ifCond .le off, 3)) (hq : pc + 3 = q) (ht : (pc : Int) + off = (tgt : Int)) (kt : x ≤ 0 → AW sc k tgt L st n μ Q) (kf : ¬ (x ≤ 0) → AW sc k q L st n μ Q) : AW sc k pc L ((0, x) :: st) n μ Q := by
  subst hq
  by_cases hc : x ≤ 0
  · refine aw_stp hm hd rfl ?_ (Nat.le_refl n) (kt hc)
    show am_if (am_cc .le x 0 = true) pc off L st n μ = _
    unfold am_if
    rw [if_pos (by omega), if_pos (show am_cc .le x 0 = true from decide_eq_true hc), show ((pc : Int) + off).toNat = tgt by omega]
  · refine aw_stp hm hd rfl ?_ (Nat.le_refl n) (kf hc)
    show am_if (am_cc .le x 0 = true) pc off L st n μ = _
    unfold am_if
    rw [if_pos (by omega), if_neg (show ¬ am_cc .le x 0 = true from fun z => hc (of_decide_eq_true z))]
theorem aw_ifnull {x off : Int} {tgt : Nat} (hm : am_mi k cc o ml rt) (hd : decode cc pc = .ok (.ifnull off, 3)) (hq : pc + 3 = q) (ht : (pc : Int) + off = (tgt : Int)) (kt : x < 0 → AW sc k tgt L st n μ Q) (kf : ¬ (x < 0) → AW sc k q L st n μ Q) : AW sc k pc L ((2, x) :: st) n μ Q := by
  subst hq
  by_cases hc : x < 0
  · refine aw_stp hm hd rfl ?_ (Nat.le_refl n) (kt hc)
    show am_if (x < 0) pc off L st n μ = _
    unfold am_if
    rw [if_pos (by omega), if_pos hc, show ((pc : Int) + off).toNat = tgt by omega]
  · refine aw_stp hm hd rfl ?_ (Nat.le_refl n) (kf hc)
    show am_if (x < 0) pc off L st n μ = _
    unfold am_if
    rw [if_pos (by omega), if_neg hc]
theorem aw_ifnonnull {x off : Int} {tgt : Nat} (hm : am_mi k cc o ml rt) (hd : decode cc pc = .ok (.ifnonnull off, 3)) (hq : pc + 3 = q) (ht : (pc : Int) + off = (tgt : Int)) (kt : 0 ≤ x → AW sc k tgt L st n μ Q) (kf : ¬ (0 ≤ x) → AW sc k q L st n μ Q) : AW sc k pc L ((2, x) :: st) n μ Q := by
  subst hq
  by_cases hc : 0 ≤ x
  · refine aw_stp hm hd rfl ?_ (Nat.le_refl n) (kt hc)
    show am_if (0 ≤ x) pc off L st n μ = _
    unfold am_if
    rw [if_pos (by omega), if_pos hc, show ((pc : Int) + off).toNat = tgt by omega]
  · refine aw_stp hm hd rfl ?_ (Nat.le_refl n) (kf hc)
    show am_if (0 ≤ x) pc off L st n μ = _
    unfold am_if
    rw [if_pos (by omega), if_neg hc]
theorem aw_goto {off : Int} (hm : am_mi k cc o ml rt) (hd : decode cc pc = .ok (.goto off, 3)) (ht : (pc : Int) + off = (q : Int)) (h : AW sc k q L st n μ Q) : AW sc k pc L st n μ Q := by
  refine aw_stp hm hd rfl ?_ (Nat.le_refl n) h
  show am_go pc off L st n μ = _
  unfold am_go
  rw [if_pos (by omega), show ((pc : Int) + off).toNat = q by omega]
theorem aw_tableOut {x dflt lo hi : Int} {offs : Array Int} {len : Nat} (hm : am_mi k cc o ml rt) (hd : decode cc pc = .ok (.tableswitch dflt lo hi offs, len)) (hx : x < lo ∨ hi < x) (ht : (pc : Int) + dflt = (q : Int)) (h : AW sc k q L st n μ Q) : AW sc k pc L ((0, x) :: st) n μ Q := by
  refine aw_stp hm hd rfl ?_ (Nat.le_refl n) h
  show (if (0 : Nat) = 0 then (if x < lo ∨ hi < x then am_go pc dflt L st n μ else _) else none) = _
  rw [if_pos rfl, if_pos hx]
  unfold am_go
  rw [if_pos (by omega), show ((pc : Int) + dflt).toNat = q by omega]
theorem aw_tableIn {x dflt lo hi off : Int} {offs : Array Int} {len : Nat} (hm : am_mi k cc o ml rt) (hd : decode cc pc = .ok (.tableswitch dflt lo hi offs, len)) (h1 : lo ≤ x) (h2 : x ≤ hi) (ho : offs[(x - lo).toNat]? = some off) (ht : (pc : Int) + off = (q : Int)) (h : AW sc k q L st n μ Q) : AW sc k pc L ((0, x) :: st) n μ Q := by
  refine aw_stp hm hd rfl ?_ (Nat.le_refl n) h
  show (if (0 : Nat) = 0 then (if x < lo ∨ hi < x then am_go pc dflt L st n μ else match offs[(x - lo).toNat]? with | some off => am_go pc off L st n μ | none => none) else none) = _
  rw [if_pos rfl, if_neg (by omega), ho]
  dsimp only
  unfold am_go
  rw [if_pos (by omega), show ((pc : Int) + off).toNat = q by omega]
theorem aw_get {idx w ci j t : Nat} {a v ji : Int} (hm : am_mi k cc o ml rt) (hd : decode cc pc = .ok (.getfield idx, 3)) (hq : pc + 3 = q) (hf : am_fls.lookup (o, idx) = some ((ci, j), w)) (hj : ((j : Nat) : Int) = ji) (hk : am_kind a = (0, ci)) (ht : am_ft ci j = t) (hv : μ a ji = v) (h : AW sc k q L ((t, v) :: st) n μ Q) : AW sc k pc L ((2, a) :: st) n μ Q := by
  subst hq
  subst hj
  refine aw_stp hm hd rfl ?_ (Nat.le_refl n) h
  show (match am_fls.lookup (am_cl k, idx) with | some (q, _) => _ | none => none) = _
  rw [hm.2.1, hf]
  dsimp only
  rw [if_pos ⟨rfl, hk⟩, ht, hv]
theorem aw_put {idx w ci j t : Nat} {a x ji : Int} (hm : am_mi k cc o ml rt) (hd : decode cc pc = .ok (.putfield idx, 3)) (hq : pc + 3 = q) (hf : am_fls.lookup (o, idx) = some ((ci, j), w)) (hj : ((j : Nat) : Int) = ji) (hk : am_kind a = (0, ci)) (ht : am_ft ci j = t) (hfin : (am_fs ci j).2 = false ∨ (am_kd k = 2 ∧ o = ci)) (hb : (am_fs ci j).1 ≠ 3 ∨ x = 0 ∨ x = 1) (h : ∀ μ', μ' = am_set μ a ji x → AW sc k q L st n μ' Q) : AW sc k pc L ((t, x) :: (2, a) :: st) n μ Q := by
  subst hq
  subst hj
  refine aw_stp hm hd rfl ?_ (Nat.le_refl n) (h _ rfl)
  show (match am_fls.lookup (am_cl k, idx) with | some (q, _) => _ | none => none) = _
  rw [hm.2.1, hf]
  dsimp only
  rw [if_pos ⟨rfl, hk, ht.symm, fun z => hfin.elim (fun y => absurd (z.symm.trans y) (by decide)) id, fun z => hb.elim (fun y => absurd z y) id⟩]
theorem aw_iald {a j v : Int} {z : Nat} (hm : am_mi k cc o ml rt) (hd : decode cc pc = .ok (.iaload, 1)) (hq : pc + 1 = q) (hk : am_kind a = (1, z)) (h0 : 0 ≤ j) (h1 : j < (z : Int)) (hv : μ a j = v) (h : AW sc k q L ((0, v) :: st) n μ Q) : AW sc k pc L ((0, j) :: (2, a) :: st) n μ Q := by
  subst hq
  refine aw_stp hm hd rfl ?_ (Nat.le_refl n) h
  show am_ald [1] 0 sc pc L ((0, j) :: (2, a) :: st) n μ = _
  unfold am_ald
  dsimp only
  rw [if_pos ⟨rfl, rfl, by rw [hk]; simp, h0, by rw [hk]; exact h1⟩, hv]
theorem aw_lald {a j v : Int} {z : Nat} (hm : am_mi k cc o ml rt) (hd : decode cc pc = .ok (.laload, 1)) (hq : pc + 1 = q) (hk : am_kind a = (2, z)) (h0 : 0 ≤ j) (h1 : j < (z : Int)) (hv : μ a j = v) (h : AW sc k q L ((1, v) :: st) n μ Q) : AW sc k pc L ((0, j) :: (2, a) :: st) n μ Q := by
  subst hq
  refine aw_stp hm hd rfl ?_ (Nat.le_refl n) h
  show am_ald [2] 1 none pc L ((0, j) :: (2, a) :: st) n μ = _
  unfold am_ald
  dsimp only
  rw [if_pos ⟨rfl, rfl, by rw [hk]; simp, h0, by rw [hk]; exact h1⟩, hv]
theorem aw_aald {a j v : Int} {z : Nat} (hm : am_mi k cc o ml rt) (hd : decode cc pc = .ok (.aaload, 1)) (hq : pc + 1 = q) (hk : am_kind a = (3, z)) (h0 : 0 ≤ j) (h1 : j < (z : Int)) (hv : μ a j = v) (h : AW sc k q L ((2, v) :: st) n μ Q) : AW sc k pc L ((0, j) :: (2, a) :: st) n μ Q := by
  subst hq
  refine aw_stp hm hd rfl ?_ (Nat.le_refl n) h
  show am_ald [3, 4] 2 none pc L ((0, j) :: (2, a) :: st) n μ = _
  unfold am_ald
  dsimp only
  rw [if_pos ⟨rfl, rfl, by rw [hk]; simp, h0, by rw [hk]; exact h1⟩, hv]
theorem aw_ald4 {a j v : Int} {z : Nat} (hm : am_mi k cc o ml rt) (hd : decode cc pc = .ok (.aaload, 1)) (hq : pc + 1 = q) (hk : am_kind a = (4, z)) (h0 : 0 ≤ j) (h1 : j < (z : Int)) (hv : μ a j = v) (h : AW sc k q L ((2, v) :: st) n μ Q) : AW sc k pc L ((0, j) :: (2, a) :: st) n μ Q := by
  subst hq
  refine aw_stp hm hd rfl ?_ (Nat.le_refl n) h
  show am_ald [3, 4] 2 none pc L ((0, j) :: (2, a) :: st) n μ = _
  unfold am_ald
  dsimp only
  rw [if_pos ⟨rfl, rfl, by rw [hk]; simp, h0, by rw [hk]; exact h1⟩, hv]
theorem aw_iast {a j x : Int} {z : Nat} (hm : am_mi k cc o ml rt) (hd : decode cc pc = .ok (.iastore, 1)) (hq : pc + 1 = q) (hk : am_kind a = (1, z))  (h0 : 0 ≤ j) (h1 : j < (z : Int)) (h : ∀ μ', μ' = am_set μ a j x → AW sc k q L st n μ' Q) : AW sc k pc L ((0, x) :: (0, j) :: (2, a) :: st) n μ Q := by
  subst hq
  refine aw_stp hm hd rfl ?_ (Nat.le_refl n) (h _ rfl)
  show am_ast 1 0 pc L ((0, x) :: (0, j) :: (2, a) :: st) n μ = _
  unfold am_ast
  dsimp only
  rw [if_pos ⟨rfl, rfl, rfl, by rw [hk], h0, by rw [hk]; exact h1, fun z => absurd z (by decide)⟩]
theorem aw_last {a j x : Int} {z : Nat} (hm : am_mi k cc o ml rt) (hd : decode cc pc = .ok (.lastore, 1)) (hq : pc + 1 = q) (hk : am_kind a = (2, z))  (h0 : 0 ≤ j) (h1 : j < (z : Int)) (h : ∀ μ', μ' = am_set μ a j x → AW sc k q L st n μ' Q) : AW sc k pc L ((1, x) :: (0, j) :: (2, a) :: st) n μ Q := by
  subst hq
  refine aw_stp hm hd rfl ?_ (Nat.le_refl n) (h _ rfl)
  show am_ast 2 1 pc L ((1, x) :: (0, j) :: (2, a) :: st) n μ = _
  unfold am_ast
  dsimp only
  rw [if_pos ⟨rfl, rfl, rfl, by rw [hk], h0, by rw [hk]; exact h1, fun z => absurd z (by decide)⟩]
theorem aw_aast {a j x : Int} {z : Nat} (hm : am_mi k cc o ml rt) (hd : decode cc pc = .ok (.aastore, 1)) (hq : pc + 1 = q) (hk : am_kind a = (3, z)) (hx : am_kind x = (0, 3)) (h0 : 0 ≤ j) (h1 : j < (z : Int)) (h : ∀ μ', μ' = am_set μ a j x → AW sc k q L st n μ' Q) : AW sc k pc L ((2, x) :: (0, j) :: (2, a) :: st) n μ Q := by
  subst hq
  refine aw_stp hm hd rfl ?_ (Nat.le_refl n) (h _ rfl)
  show am_ast 3 2 pc L ((2, x) :: (0, j) :: (2, a) :: st) n μ = _
  unfold am_ast
  dsimp only
  rw [if_pos ⟨rfl, rfl, rfl, by rw [hk], h0, by rw [hk]; exact h1, fun _ => hx⟩]
theorem aw_alen {a zi : Int} {kd z : Nat} (hm : am_mi k cc o ml rt) (hd : decode cc pc = .ok (.arraylength, 1)) (hq : pc + 1 = q) (hk : am_kind a = (kd, z)) (hkd : kd ∈ [1, 2, 3, 4]) (hz : ((z : Nat) : Int) = zi) (h : AW sc k q L ((0, zi) :: st) n μ Q) : AW sc k pc L ((2, a) :: st) n μ Q := by
  subst hq
  subst hz
  refine aw_stp hm hd rfl ?_ (Nat.le_refl n) h
  show (if (2 : Nat) = 2 ∧ (am_kind a).1 ∈ [1, 2, 3, 4] then some (Sum.inl (pc + 1, L, (0, ((am_kind a).2 : Int)) :: st, n, μ)) else _) = _
  rw [hk, if_pos ⟨rfl, hkd⟩]
theorem aw_sld {a j ln : Int} {xs : Int → Int} (hs : sc = some (ln, xs)) (hm : am_mi k cc o ml rt) (hd : decode cc pc = .ok (.iaload, 1)) (hq : pc + 1 = q) (h0 : 0 ≤ j) (h1 : j < ln) (h : AW sc k q L ((0, xs j) :: st) n μ Q) : AW sc k pc L ((0, j) :: (3, a) :: st) n μ Q := by
  subst hq
  refine aw_stp hm hd rfl ?_ (Nat.le_refl n) h
  show am_ald [1] 0 sc pc L ((0, j) :: (3, a) :: st) n μ = _
  unfold am_ald
  dsimp only
  rw [if_neg (fun z => absurd z.2.1 (by decide)), hs]
  dsimp only
  rw [if_pos ⟨rfl, rfl, rfl, h0, h1⟩]
theorem aw_slen {a ln : Int} {xs : Int → Int} (hs : sc = some (ln, xs)) (hm : am_mi k cc o ml rt) (hd : decode cc pc = .ok (.arraylength, 1)) (hq : pc + 1 = q) (h : AW sc k q L ((0, ln) :: st) n μ Q) : AW sc k pc L ((3, a) :: st) n μ Q := by
  subst hq
  refine aw_stp hm hd rfl ?_ (Nat.le_refl n) h
  subst hs
  simp [am_do]
theorem aw_newi {c : Int} {z : Nat} (hm : am_mi k cc o ml rt) (hd : decode cc pc = .ok (.newarray .int, 2)) (hq : pc + 2 = q) (hk : am_kind (n : Int) = (1, z)) (hz : c = (z : Int)) (h : ∀ μ', μ' = am_new μ n (fun _ => 0) → AW sc k q L ((2, (n : Int)) :: st) (n + 1) μ' Q) : AW sc k pc L ((0, c) :: st) n μ Q := by
  subst hq
  refine aw_stp hm hd rfl ?_ (Nat.le_succ n) (h _ rfl)
  show (if (0 : Nat) = 0 ∧ 0 ≤ c ∧ am_kind n = ((if newarray.typeOf .int = .int then 1 else 2), c.toNat) ∧ (newarray.typeOf .int = .int ∨ newarray.typeOf .int = .long) then some (Sum.inl (pc + 2, L, (2, (n : Int)) :: st, n + 1, am_new μ n (fun _ => 0))) else none) = _
  rw [if_pos ⟨rfl, by omega, by rw [hk, hz]; rfl, Or.inl rfl⟩]
theorem aw_newl {c : Int} {z : Nat} (hm : am_mi k cc o ml rt) (hd : decode cc pc = .ok (.newarray .long, 2)) (hq : pc + 2 = q) (hk : am_kind (n : Int) = (2, z)) (hz : c = (z : Int)) (h : ∀ μ', μ' = am_new μ n (fun _ => 0) → AW sc k q L ((2, (n : Int)) :: st) (n + 1) μ' Q) : AW sc k pc L ((0, c) :: st) n μ Q := by
  subst hq
  refine aw_stp hm hd rfl ?_ (Nat.le_succ n) (h _ rfl)
  show (if (0 : Nat) = 0 ∧ 0 ≤ c ∧ am_kind n = ((if newarray.typeOf .long = .int then 1 else 2), c.toNat) ∧ (newarray.typeOf .long = .int ∨ newarray.typeOf .long = .long) then some (Sum.inl (pc + 2, L, (2, (n : Int)) :: st, n + 1, am_new μ n (fun _ => 0))) else none) = _
  rw [if_pos ⟨rfl, by omega, by rw [hk, hz]; rfl, Or.inr rfl⟩]
theorem aw_newn {idx w : Nat} {c : Int} {z : Nat} (hm : am_mi k cc o ml rt) (hd : decode cc pc = .ok (.anewarray idx, 3)) (hq : pc + 3 = q) (ht : am_nls.lookup (o, idx) = some (100, w)) (hk : am_kind (n : Int) = (3, z)) (hz : c = (z : Int)) (h : ∀ μ', μ' = am_new μ n (fun _ => -1) → AW sc k q L ((2, (n : Int)) :: st) (n + 1) μ' Q) : AW sc k pc L ((0, c) :: st) n μ Q := by
  subst hq
  refine aw_stp hm hd rfl ?_ (Nat.le_succ n) (h _ rfl)
  show (if (0 : Nat) = 0 ∧ 0 ≤ c ∧ am_kind n = (3, c.toNat) ∧ (am_nls.lookup (am_cl k, idx)).map (fun q => q.1) = some 100 then some (Sum.inl (pc + 3, L, (2, (n : Int)) :: st, n + 1, am_new μ n (fun _ => -1))) else none) = _
  rw [if_pos ⟨rfl, by omega, by rw [hk, hz]; rfl, by rw [hm.2.1, ht]; rfl⟩]
theorem aw_mna {idx w : Nat} {c : Int} {z : Nat} (hm : am_mi k cc o ml rt) (hd : decode cc pc = .ok (.multianewarray idx 2, 4)) (hq : pc + 4 = q) (ht : am_nls.lookup (o, idx) = some (101, w)) (hk : am_kind (n : Int) = (4, 2)) (hk1 : am_kind ((n : Int) + 1) = (1, z)) (hk2 : am_kind ((n : Int) + 2) = (1, z)) (hz : c = (z : Int)) (h : ∀ μ', μ' = am_new (am_new (am_new μ n (fun j => if j = 0 then n + 1 else if j = 1 then n + 2 else -1)) (n + 1) (fun _ => 0)) (n + 2) (fun _ => 0) → AW sc k q L ((2, (n : Int)) :: st) (n + 3) μ' Q) : AW sc k pc L ((0, c) :: (0, 2) :: st) n μ Q := by
  subst hq
  refine aw_stp hm hd rfl ?_ (by omega) (h _ rfl)
  show (if (2 : Nat) = 2 ∧ (0 : Nat) = 0 ∧ (0 : Nat) = 0 ∧ (2 : Int) = 2 ∧ 0 ≤ c ∧ am_kind n = (4, 2) ∧ am_kind (n + 1) = (1, c.toNat) ∧ am_kind (n + 2) = (1, c.toNat) ∧ (am_nls.lookup (am_cl k, idx)).map (fun q => q.1) = some 101 then some (Sum.inl (pc + 4, L, (2, (n : Int)) :: st, n + 3, am_new (am_new (am_new μ n (fun j => if j = 0 then n + 1 else if j = 1 then n + 2 else -1)) (n + 1) (fun _ => 0)) (n + 2) (fun _ => 0))) else none) = _
  rw [if_pos ⟨rfl, rfl, rfl, rfl, by omega, hk, by rw [hk1, hz]; rfl, by rw [hk2, hz]; rfl, by rw [hm.2.1, ht]; rfl⟩]
theorem aw_new {idx ci w : Nat} (hm : am_mi k cc o ml rt) (hd : decode cc pc = .ok (.new idx, 3)) (hq : pc + 3 = q) (ht : am_nls.lookup (o, idx) = some (ci, w)) (h8 : ci < 8) (hk : am_kind (n : Int) = (0, ci)) (h : ∀ μ', μ' = am_new μ n (am_zero (0, ci)) → AW sc k q L ((2, (n : Int)) :: st) (n + 1) μ' Q) : AW sc k pc L st n μ Q := by
  subst hq
  refine aw_stp hm hd rfl ?_ (Nat.le_succ n) (h _ rfl)
  show (match am_nls.lookup (am_cl k, idx) with | some (ci, _) => _ | none => none) = _
  rw [hm.2.1, ht]
  dsimp only
  rw [if_pos ⟨hk, h8⟩]
theorem aw_oinit {idx w : Nat} {a : Int} (hm : am_mi k cc o ml rt) (hd : decode cc pc = .ok (.invokespecial idx, 3)) (hq : pc + 3 = q) (ht : am_ois.lookup (o, idx) = some w) (ha : 0 ≤ a) (hc : am_cats st ≤ 8) (hf : 1 ≤ am_fr k) (hl : 20 ≤ am_lo k) (h : AW sc k q L st n μ Q) : AW sc k pc L ((2, a) :: st) n μ Q := by
  subst hq
  refine aw_stp hm hd rfl ?_ (Nat.le_refl n) h
  show (match am_ois.lookup (am_cl k, idx) with | some _ => _ | none => _) = _
  rw [hm.2.1, ht]
  dsimp only
  rw [if_pos ⟨rfl, ha, hc, hf, hl⟩]
theorem aw_m2 {idx w f t : Nat} {g : Int → Int → Int} {x y : Int} (hg : (f = 1 ∧ t = 0 ∧ g = max) ∨ (f = 2 ∧ t = 0 ∧ g = min) ∨ (f = 3 ∧ t = 1 ∧ g = min)) (hm : am_mi k cc o ml rt) (hd : decode cc pc = .ok (.invokestatic idx, 3)) (hq : pc + 3 = q) (ht : am_mts.lookup (o, idx) = some (f, w)) (hc : am_cats st ≤ 8) (hf : 1 ≤ am_fr k) (hl : 23 ≤ am_lo k) (h : AW sc k q L ((t, g x y) :: st) n μ Q) : AW sc k pc L ((t, y) :: (t, x) :: st) n μ Q := by
  subst hq
  refine aw_stp hm hd rfl ?_ (Nat.le_refl n) h
  show (match am_mts.lookup (am_cl k, idx) with | some (f, _) => _ | none => _) = _
  rw [hm.2.1, ht]
  dsimp only
  rw [if_pos ⟨hf, hl⟩]
  rcases hg with ⟨rfl, rfl, rfl⟩ | ⟨rfl, rfl, rfl⟩ | ⟨rfl, rfl, rfl⟩
  · show am_m2 0 max pc L ((0, y) :: (0, x) :: st) n μ = _
    unfold am_m2
    dsimp only
    rw [if_pos ⟨rfl, rfl, hc⟩]
  · show am_m2 0 min pc L ((0, y) :: (0, x) :: st) n μ = _
    unfold am_m2
    dsimp only
    rw [if_pos ⟨rfl, rfl, hc⟩]
  · show am_m2 1 min pc L ((1, y) :: (1, x) :: st) n μ = _
    unfold am_m2
    dsimp only
    rw [if_pos ⟨rfl, rfl, hc⟩]
theorem aw_abs {idx w : Nat} {x v : Int} (hm : am_mi k cc o ml rt) (hd : decode cc pc = .ok (.invokestatic idx, 3)) (hq : pc + 3 = q) (ht : am_mts.lookup (o, idx) = some (0, w)) (hc : am_cats st ≤ 8) (hf : 1 ≤ am_fr k) (hl : 23 ≤ am_lo k) (h1 : -2147483648 < x) (h2 : x < 2147483648) (hv : (if 0 ≤ x then x else -x) = v) (h : AW sc k q L ((0, v) :: st) n μ Q) : AW sc k pc L ((0, x) :: st) n μ Q := by
  subst hq
  refine aw_stp hm hd rfl ?_ (Nat.le_refl n) h
  show (match am_mts.lookup (am_cl k, idx) with | some (f, _) => _ | none => _) = _
  rw [hm.2.1, ht]
  dsimp only
  rw [if_pos ⟨hf, hl⟩]
  show am_mabs pc L ((0, x) :: st) n μ = _
  unfold am_mabs
  dsimp only
  rw [if_pos ⟨rfl, hc⟩]
  have e : am_abs x = v := by
    unfold am_abs
    rw [am_w32_id ⟨by omega, by omega⟩]
    exact hv
  rw [e]
/-- static facts of a call -/
def am_cok (kd k k' na : Nat) : Bool := decide (am_kd k' = kd) && decide (am_fr k' + 1 ≤ am_fr k) && decide (19 + am_ml k' + am_lo k' ≤ am_lo k) && decide (k' < am_lawk) && decide (am_na k' = na)
theorem am_cok_of {kd k k' na : Nat} (h : am_cok kd k k' na = true) : (am_kd k' = kd ∧ am_fr k' + 1 ≤ am_fr k ∧ 19 + am_ml k' + am_lo k' ≤ am_lo k ∧ k' < am_lawk) ∧ am_na k' = na := by
  unfold am_cok at h
  simp only [Bool.and_eq_true, decide_eq_true_eq] at h
  exact ⟨⟨h.1.1.1.1, h.1.1.1.2, h.1.1.2, h.1.2⟩, h.2⟩
theorem am_call_v {kd idx k' w1 w2 na ci : Nat} {a : Int} {as : List am_V} (hkd : kd ≠ 1) (ht : am_mls.lookup (am_cl k, idx) = some (k', w1, w2)) (hs : am_cok kd k k' na = true) (hci : am_cl k' = ci) (hk : am_kind a = (0, ci)) (hlen : as.length = na) (htag : as.all (fun v => decide (v.1 ≤ 2)) = true) (hc : am_cats st ≤ 8) (hml : am_cats ((2, a) :: as.reverse) ≤ am_ml k') : am_call kd k idx L (as ++ (2, a) :: st) = some (.inr (.inl (k', (2, a) :: as.reverse, st))) := by
  obtain ⟨h1, h2⟩ := am_cok_of hs
  unfold am_call
  rw [ht]
  dsimp only
  have e1 : (as ++ (2, a) :: st).take (am_na k') = as := by rw [h2, ← hlen, List.take_left]
  have e2 : (as ++ (2, a) :: st).drop (am_na k') = (2, a) :: st := by rw [h2, ← hlen, List.drop_left]
  rw [if_pos h1, if_neg hkd, e1, e2]
  dsimp only
  rw [if_pos ⟨rfl, by rw [hci]; exact hk, htag, hc, hml⟩]
theorem am_call_s {idx k' w1 w2 na : Nat} {as : List am_V} (ht : am_mls.lookup (am_cl k, idx) = some (k', w1, w2)) (hs : am_cok 1 k k' na = true) (hlen : as.length = na) (htag : as.all (fun v => decide (v.1 ≤ 2)) = true) (hc : am_cats st ≤ 8) (hml : am_cats as.reverse ≤ am_ml k') : am_call 1 k idx L (as ++ st) = some (.inr (.inl (k', as.reverse, st))) := by
  obtain ⟨h1, h2⟩ := am_cok_of hs
  unfold am_call
  rw [ht]
  dsimp only
  have e1 : (as ++ st).take (am_na k') = as := by rw [h2, ← hlen, List.take_left]
  have e2 : (as ++ st).drop (am_na k') = st := by rw [h2, ← hlen, List.drop_left]
  rw [if_pos h1, if_pos rfl, e1, e2, if_pos ⟨by rw [h2, List.length_append]; omega, htag, hc, hml⟩]
theorem aw_v0 {idx k' w1 w2 ci : Nat} {a : Int} {Q1 : Option am_V → Nat → am_M → Prop} (hm : am_mi k cc o ml rt) (hd : decode cc pc = .ok (.invokevirtual idx, 3)) (hq : pc + 3 = q) (ht : am_mls.lookup (o, idx) = some (k', w1, w2)) (hs : am_cok 0 k k' 0 = true) (hci : am_cl k' = ci) (hk : am_kind a = (0, ci)) (htag : ([] : List am_V).all (fun v => decide (v.1 ≤ 2)) = true) (hc : Nat.ble (am_cats st) 8 = true) (hml : Nat.ble (am_cats [(2, a)]) (am_ml k') = true) (hcall : AC k' [(2, a)] n μ Q1) (h : ∀ r n' μ', Q1 r n' μ' → AW sc k q L (r.toList ++ st) n' μ' Q) : AW sc k pc L ((2, a) :: st) n μ Q := by
  refine aw_cal hm hd rfl ?_ hq hcall h
  exact am_call_v (L := L) (as := []) (by decide) (by rw [hm.2.1]; exact ht) hs hci hk rfl htag (Nat.le_of_ble_eq_true hc) (Nat.le_of_ble_eq_true hml)
theorem aw_i0 {idx k' w1 w2 ci : Nat} {a : Int} {Q1 : Option am_V → Nat → am_M → Prop} (hm : am_mi k cc o ml rt) (hd : decode cc pc = .ok (.invokespecial idx, 3)) (hq : pc + 3 = q) (hoi : am_ois.lookup (o, idx) = none) (ht : am_mls.lookup (o, idx) = some (k', w1, w2)) (hs : am_cok 2 k k' 0 = true) (hci : am_cl k' = ci) (hk : am_kind a = (0, ci)) (htag : ([] : List am_V).all (fun v => decide (v.1 ≤ 2)) = true) (hc : Nat.ble (am_cats st) 8 = true) (hml : Nat.ble (am_cats [(2, a)]) (am_ml k') = true) (hcall : AC k' [(2, a)] n μ Q1) (h : ∀ r n' μ', Q1 r n' μ' → AW sc k q L (r.toList ++ st) n' μ' Q) : AW sc k pc L ((2, a) :: st) n μ Q := by
  refine aw_cal hm hd rfl ?_ hq hcall h
  show (match am_ois.lookup (am_cl k, idx) with | some _ => _ | none => am_call 2 k idx L _) = _
  rw [hm.2.1, hoi]
  exact am_call_v (L := L) (as := []) (by decide) (by rw [hm.2.1]; exact ht) hs hci hk rfl htag (Nat.le_of_ble_eq_true hc) (Nat.le_of_ble_eq_true hml)
theorem aw_v1 {idx k' w1 w2 ci : Nat} {a : Int} {v1 : am_V} {Q1 : Option am_V → Nat → am_M → Prop} (hm : am_mi k cc o ml rt) (hd : decode cc pc = .ok (.invokevirtual idx, 3)) (hq : pc + 3 = q) (ht : am_mls.lookup (o, idx) = some (k', w1, w2)) (hs : am_cok 0 k k' 1 = true) (hci : am_cl k' = ci) (hk : am_kind a = (0, ci)) (htag : ([v1] : List am_V).all (fun v => decide (v.1 ≤ 2)) = true) (hc : Nat.ble (am_cats st) 8 = true) (hml : Nat.ble (am_cats [(2, a), v1]) (am_ml k') = true) (hcall : AC k' [(2, a), v1] n μ Q1) (h : ∀ r n' μ', Q1 r n' μ' → AW sc k q L (r.toList ++ st) n' μ' Q) : AW sc k pc L (v1 :: (2, a) :: st) n μ Q := by
  refine aw_cal hm hd rfl ?_ hq hcall h
  exact am_call_v (L := L) (as := [v1]) (by decide) (by rw [hm.2.1]; exact ht) hs hci hk rfl htag (Nat.le_of_ble_eq_true hc) (Nat.le_of_ble_eq_true hml)
theorem aw_i1 {idx k' w1 w2 ci : Nat} {a : Int} {v1 : am_V} {Q1 : Option am_V → Nat → am_M → Prop} (hm : am_mi k cc o ml rt) (hd : decode cc pc = .ok (.invokespecial idx, 3)) (hq : pc + 3 = q) (hoi : am_ois.lookup (o, idx) = none) (ht : am_mls.lookup (o, idx) = some (k', w1, w2)) (hs : am_cok 2 k k' 1 = true) (hci : am_cl k' = ci) (hk : am_kind a = (0, ci)) (htag : ([v1] : List am_V).all (fun v => decide (v.1 ≤ 2)) = true) (hc : Nat.ble (am_cats st) 8 = true) (hml : Nat.ble (am_cats [(2, a), v1]) (am_ml k') = true) (hcall : AC k' [(2, a), v1] n μ Q1) (h : ∀ r n' μ', Q1 r n' μ' → AW sc k q L (r.toList ++ st) n' μ' Q) : AW sc k pc L (v1 :: (2, a) :: st) n μ Q := by
  refine aw_cal hm hd rfl ?_ hq hcall h
  show (match am_ois.lookup (am_cl k, idx) with | some _ => _ | none => am_call 2 k idx L _) = _
  rw [hm.2.1, hoi]
  exact am_call_v (L := L) (as := [v1]) (by decide) (by rw [hm.2.1]; exact ht) hs hci hk rfl htag (Nat.le_of_ble_eq_true hc) (Nat.le_of_ble_eq_true hml)
theorem aw_s1 {idx k' w1 w2 : Nat} {v1 : am_V} {Q1 : Option am_V → Nat → am_M → Prop} (hm : am_mi k cc o ml rt) (hd : decode cc pc = .ok (.invokestatic idx, 3)) (hq : pc + 3 = q) (hoi : am_mts.lookup (o, idx) = none) (ht : am_mls.lookup (o, idx) = some (k', w1, w2)) (hs : am_cok 1 k k' 1 = true) (htag : ([v1] : List am_V).all (fun v => decide (v.1 ≤ 2)) = true) (hc : Nat.ble (am_cats st) 8 = true) (hml : Nat.ble (am_cats [v1]) (am_ml k') = true) (hcall : AC k' [v1] n μ Q1) (h : ∀ r n' μ', Q1 r n' μ' → AW sc k q L (r.toList ++ st) n' μ' Q) : AW sc k pc L (v1 :: st) n μ Q := by
  refine aw_cal hm hd rfl ?_ hq hcall h
  show (match am_mts.lookup (am_cl k, idx) with | some (f, _) => _ | none => am_call 1 k idx L _) = _
  rw [hm.2.1, hoi]
  exact am_call_s (L := L) (as := [v1]) (by rw [hm.2.1]; exact ht) hs rfl htag (Nat.le_of_ble_eq_true hc) (Nat.le_of_ble_eq_true hml)
theorem aw_v2 {idx k' w1 w2 ci : Nat} {a : Int} {v1 v2 : am_V} {Q1 : Option am_V → Nat → am_M → Prop} (hm : am_mi k cc o ml rt) (hd : decode cc pc = .ok (.invokevirtual idx, 3)) (hq : pc + 3 = q) (ht : am_mls.lookup (o, idx) = some (k', w1, w2)) (hs : am_cok 0 k k' 2 = true) (hci : am_cl k' = ci) (hk : am_kind a = (0, ci)) (htag : ([v2, v1] : List am_V).all (fun v => decide (v.1 ≤ 2)) = true) (hc : Nat.ble (am_cats st) 8 = true) (hml : Nat.ble (am_cats [(2, a), v1, v2]) (am_ml k') = true) (hcall : AC k' [(2, a), v1, v2] n μ Q1) (h : ∀ r n' μ', Q1 r n' μ' → AW sc k q L (r.toList ++ st) n' μ' Q) : AW sc k pc L (v2 :: v1 :: (2, a) :: st) n μ Q := by
  refine aw_cal hm hd rfl ?_ hq hcall h
  exact am_call_v (L := L) (as := [v2, v1]) (by decide) (by rw [hm.2.1]; exact ht) hs hci hk rfl htag (Nat.le_of_ble_eq_true hc) (Nat.le_of_ble_eq_true hml)
theorem aw_i2 {idx k' w1 w2 ci : Nat} {a : Int} {v1 v2 : am_V} {Q1 : Option am_V → Nat → am_M → Prop} (hm : am_mi k cc o ml rt) (hd : decode cc pc = .ok (.invokespecial idx, 3)) (hq : pc + 3 = q) (hoi : am_ois.lookup (o, idx) = none) (ht : am_mls.lookup (o, idx) = some (k', w1, w2)) (hs : am_cok 2 k k' 2 = true) (hci : am_cl k' = ci) (hk : am_kind a = (0, ci)) (htag : ([v2, v1] : List am_V).all (fun v => decide (v.1 ≤ 2)) = true) (hc : Nat.ble (am_cats st) 8 = true) (hml : Nat.ble (am_cats [(2, a), v1, v2]) (am_ml k') = true) (hcall : AC k' [(2, a), v1, v2] n μ Q1) (h : ∀ r n' μ', Q1 r n' μ' → AW sc k q L (r.toList ++ st) n' μ' Q) : AW sc k pc L (v2 :: v1 :: (2, a) :: st) n μ Q := by
  refine aw_cal hm hd rfl ?_ hq hcall h
  show (match am_ois.lookup (am_cl k, idx) with | some _ => _ | none => am_call 2 k idx L _) = _
  rw [hm.2.1, hoi]
  exact am_call_v (L := L) (as := [v2, v1]) (by decide) (by rw [hm.2.1]; exact ht) hs hci hk rfl htag (Nat.le_of_ble_eq_true hc) (Nat.le_of_ble_eq_true hml)
theorem aw_s2 {idx k' w1 w2 : Nat} {v1 v2 : am_V} {Q1 : Option am_V → Nat → am_M → Prop} (hm : am_mi k cc o ml rt) (hd : decode cc pc = .ok (.invokestatic idx, 3)) (hq : pc + 3 = q) (hoi : am_mts.lookup (o, idx) = none) (ht : am_mls.lookup (o, idx) = some (k', w1, w2)) (hs : am_cok 1 k k' 2 = true) (htag : ([v2, v1] : List am_V).all (fun v => decide (v.1 ≤ 2)) = true) (hc : Nat.ble (am_cats st) 8 = true) (hml : Nat.ble (am_cats [v1, v2]) (am_ml k') = true) (hcall : AC k' [v1, v2] n μ Q1) (h : ∀ r n' μ', Q1 r n' μ' → AW sc k q L (r.toList ++ st) n' μ' Q) : AW sc k pc L (v2 :: v1 :: st) n μ Q := by
  refine aw_cal hm hd rfl ?_ hq hcall h
  show (match am_mts.lookup (am_cl k, idx) with | some (f, _) => _ | none => am_call 1 k idx L _) = _
  rw [hm.2.1, hoi]
  exact am_call_s (L := L) (as := [v2, v1]) (by rw [hm.2.1]; exact ht) hs rfl htag (Nat.le_of_ble_eq_true hc) (Nat.le_of_ble_eq_true hml)
theorem aw_v3 {idx k' w1 w2 ci : Nat} {a : Int} {v1 v2 v3 : am_V} {Q1 : Option am_V → Nat → am_M → Prop} (hm : am_mi k cc o ml rt) (hd : decode cc pc = .ok (.invokevirtual idx, 3)) (hq : pc + 3 = q) (ht : am_mls.lookup (o, idx) = some (k', w1, w2)) (hs : am_cok 0 k k' 3 = true) (hci : am_cl k' = ci) (hk : am_kind a = (0, ci)) (htag : ([v3, v2, v1] : List am_V).all (fun v => decide (v.1 ≤ 2)) = true) (hc : Nat.ble (am_cats st) 8 = true) (hml : Nat.ble (am_cats [(2, a), v1, v2, v3]) (am_ml k') = true) (hcall : AC k' [(2, a), v1, v2, v3] n μ Q1) (h : ∀ r n' μ', Q1 r n' μ' → AW sc k q L (r.toList ++ st) n' μ' Q) : AW sc k pc L (v3 :: v2 :: v1 :: (2, a) :: st) n μ Q := by
  refine aw_cal hm hd rfl ?_ hq hcall h
  exact am_call_v (L := L) (as := [v3, v2, v1]) (by decide) (by rw [hm.2.1]; exact ht) hs hci hk rfl htag (Nat.le_of_ble_eq_true hc) (Nat.le_of_ble_eq_true hml)
theorem aw_i3 {idx k' w1 w2 ci : Nat} {a : Int} {v1 v2 v3 : am_V} {Q1 : Option am_V → Nat → am_M → Prop} (hm : am_mi k cc o ml rt) (hd : decode cc pc = .ok (.invokespecial idx, 3)) (hq : pc + 3 = q) (hoi : am_ois.lookup (o, idx) = none) (ht : am_mls.lookup (o, idx) = some (k', w1, w2)) (hs : am_cok 2 k k' 3 = true) (hci : am_cl k' = ci) (hk : am_kind a = (0, ci)) (htag : ([v3, v2, v1] : List am_V).all (fun v => decide (v.1 ≤ 2)) = true) (hc : Nat.ble (am_cats st) 8 = true) (hml : Nat.ble (am_cats [(2, a), v1, v2, v3]) (am_ml k') = true) (hcall : AC k' [(2, a), v1, v2, v3] n μ Q1) (h : ∀ r n' μ', Q1 r n' μ' → AW sc k q L (r.toList ++ st) n' μ' Q) : AW sc k pc L (v3 :: v2 :: v1 :: (2, a) :: st) n μ Q := by
  refine aw_cal hm hd rfl ?_ hq hcall h
  show (match am_ois.lookup (am_cl k, idx) with | some _ => _ | none => am_call 2 k idx L _) = _
  rw [hm.2.1, hoi]
  exact am_call_v (L := L) (as := [v3, v2, v1]) (by decide) (by rw [hm.2.1]; exact ht) hs hci hk rfl htag (Nat.le_of_ble_eq_true hc) (Nat.le_of_ble_eq_true hml)
theorem aw_s3 {idx k' w1 w2 : Nat} {v1 v2 v3 : am_V} {Q1 : Option am_V → Nat → am_M → Prop} (hm : am_mi k cc o ml rt) (hd : decode cc pc = .ok (.invokestatic idx, 3)) (hq : pc + 3 = q) (hoi : am_mts.lookup (o, idx) = none) (ht : am_mls.lookup (o, idx) = some (k', w1, w2)) (hs : am_cok 1 k k' 3 = true) (htag : ([v3, v2, v1] : List am_V).all (fun v => decide (v.1 ≤ 2)) = true) (hc : Nat.ble (am_cats st) 8 = true) (hml : Nat.ble (am_cats [v1, v2, v3]) (am_ml k') = true) (hcall : AC k' [v1, v2, v3] n μ Q1) (h : ∀ r n' μ', Q1 r n' μ' → AW sc k q L (r.toList ++ st) n' μ' Q) : AW sc k pc L (v3 :: v2 :: v1 :: st) n μ Q := by
  refine aw_cal hm hd rfl ?_ hq hcall h
  show (match am_mts.lookup (am_cl k, idx) with | some (f, _) => _ | none => am_call 1 k idx L _) = _
  rw [hm.2.1, hoi]
  exact am_call_s (L := L) (as := [v3, v2, v1]) (by rw [hm.2.1]; exact ht) hs rfl htag (Nat.le_of_ble_eq_true hc) (Nat.le_of_ble_eq_true hml)
theorem aw_v4 {idx k' w1 w2 ci : Nat} {a : Int} {v1 v2 v3 v4 : am_V} {Q1 : Option am_V → Nat → am_M → Prop} (hm : am_mi k cc o ml rt) (hd : decode cc pc = .ok (.invokevirtual idx, 3)) (hq : pc + 3 = q) (ht : am_mls.lookup (o, idx) = some (k', w1, w2)) (hs : am_cok 0 k k' 4 = true) (hci : am_cl k' = ci) (hk : am_kind a = (0, ci)) (htag : ([v4, v3, v2, v1] : List am_V).all (fun v => decide (v.1 ≤ 2)) = true) (hc : Nat.ble (am_cats st) 8 = true) (hml : Nat.ble (am_cats [(2, a), v1, v2, v3, v4]) (am_ml k') = true) (hcall : AC k' [(2, a), v1, v2, v3, v4] n μ Q1) (h : ∀ r n' μ', Q1 r n' μ' → AW sc k q L (r.toList ++ st) n' μ' Q) : AW sc k pc L (v4 :: v3 :: v2 :: v1 :: (2, a) :: st) n μ Q := by
  refine aw_cal hm hd rfl ?_ hq hcall h
  exact am_call_v (L := L) (as := [v4, v3, v2, v1]) (by decide) (by rw [hm.2.1]; exact ht) hs hci hk rfl htag (Nat.le_of_ble_eq_true hc) (Nat.le_of_ble_eq_true hml)
theorem aw_i4 {idx k' w1 w2 ci : Nat} {a : Int} {v1 v2 v3 v4 : am_V} {Q1 : Option am_V → Nat → am_M → Prop} (hm : am_mi k cc o ml rt) (hd : decode cc pc = .ok (.invokespecial idx, 3)) (hq : pc + 3 = q) (hoi : am_ois.lookup (o, idx) = none) (ht : am_mls.lookup (o, idx) = some (k', w1, w2)) (hs : am_cok 2 k k' 4 = true) (hci : am_cl k' = ci) (hk : am_kind a = (0, ci)) (htag : ([v4, v3, v2, v1] : List am_V).all (fun v => decide (v.1 ≤ 2)) = true) (hc : Nat.ble (am_cats st) 8 = true) (hml : Nat.ble (am_cats [(2, a), v1, v2, v3, v4]) (am_ml k') = true) (hcall : AC k' [(2, a), v1, v2, v3, v4] n μ Q1) (h : ∀ r n' μ', Q1 r n' μ' → AW sc k q L (r.toList ++ st) n' μ' Q) : AW sc k pc L (v4 :: v3 :: v2 :: v1 :: (2, a) :: st) n μ Q := by
  refine aw_cal hm hd rfl ?_ hq hcall h
  show (match am_ois.lookup (am_cl k, idx) with | some _ => _ | none => am_call 2 k idx L _) = _
  rw [hm.2.1, hoi]
  exact am_call_v (L := L) (as := [v4, v3, v2, v1]) (by decide) (by rw [hm.2.1]; exact ht) hs hci hk rfl htag (Nat.le_of_ble_eq_true hc) (Nat.le_of_ble_eq_true hml)
theorem aw_s4 {idx k' w1 w2 : Nat} {v1 v2 v3 v4 : am_V} {Q1 : Option am_V → Nat → am_M → Prop} (hm : am_mi k cc o ml rt) (hd : decode cc pc = .ok (.invokestatic idx, 3)) (hq : pc + 3 = q) (hoi : am_mts.lookup (o, idx) = none) (ht : am_mls.lookup (o, idx) = some (k', w1, w2)) (hs : am_cok 1 k k' 4 = true) (htag : ([v4, v3, v2, v1] : List am_V).all (fun v => decide (v.1 ≤ 2)) = true) (hc : Nat.ble (am_cats st) 8 = true) (hml : Nat.ble (am_cats [v1, v2, v3, v4]) (am_ml k') = true) (hcall : AC k' [v1, v2, v3, v4] n μ Q1) (h : ∀ r n' μ', Q1 r n' μ' → AW sc k q L (r.toList ++ st) n' μ' Q) : AW sc k pc L (v4 :: v3 :: v2 :: v1 :: st) n μ Q := by
  refine aw_cal hm hd rfl ?_ hq hcall h
  show (match am_mts.lookup (am_cl k, idx) with | some (f, _) => _ | none => am_call 1 k idx L _) = _
  rw [hm.2.1, hoi]
  exact am_call_s (L := L) (as := [v4, v3, v2, v1]) (by rw [hm.2.1]; exact ht) hs rfl htag (Nat.le_of_ble_eq_true hc) (Nat.le_of_ble_eq_true hml)
theorem aw_v5 {idx k' w1 w2 ci : Nat} {a : Int} {v1 v2 v3 v4 v5 : am_V} {Q1 : Option am_V → Nat → am_M → Prop} (hm : am_mi k cc o ml rt) (hd : decode cc pc = .ok (.invokevirtual idx, 3)) (hq : pc + 3 = q) (ht : am_mls.lookup (o, idx) = some (k', w1, w2)) (hs : am_cok 0 k k' 5 = true) (hci : am_cl k' = ci) (hk : am_kind a = (0, ci)) (htag : ([v5, v4, v3, v2, v1] : List am_V).all (fun v => decide (v.1 ≤ 2)) = true) (hc : Nat.ble (am_cats st) 8 = true) (hml : Nat.ble (am_cats [(2, a), v1, v2, v3, v4, v5]) (am_ml k') = true) (hcall : AC k' [(2, a), v1, v2, v3, v4, v5] n μ Q1) (h : ∀ r n' μ', Q1 r n' μ' → AW sc k q L (r.toList ++ st) n' μ' Q) : AW sc k pc L (v5 :: v4 :: v3 :: v2 :: v1 :: (2, a) :: st) n μ Q := by
  refine aw_cal hm hd rfl ?_ hq hcall h
  exact am_call_v (L := L) (as := [v5, v4, v3, v2, v1]) (by decide) (by rw [hm.2.1]; exact ht) hs hci hk rfl htag (Nat.le_of_ble_eq_true hc) (Nat.le_of_ble_eq_true hml)
theorem aw_i5 {idx k' w1 w2 ci : Nat} {a : Int} {v1 v2 v3 v4 v5 : am_V} {Q1 : Option am_V → Nat → am_M → Prop} (hm : am_mi k cc o ml rt) (hd : decode cc pc = .ok (.invokespecial idx, 3)) (hq : pc + 3 = q) (hoi : am_ois.lookup (o, idx) = none) (ht : am_mls.lookup (o, idx) = some (k', w1, w2)) (hs : am_cok 2 k k' 5 = true) (hci : am_cl k' = ci) (hk : am_kind a = (0, ci)) (htag : ([v5, v4, v3, v2, v1] : List am_V).all (fun v => decide (v.1 ≤ 2)) = true) (hc : Nat.ble (am_cats st) 8 = true) (hml : Nat.ble (am_cats [(2, a), v1, v2, v3, v4, v5]) (am_ml k') = true) (hcall : AC k' [(2, a), v1, v2, v3, v4, v5] n μ Q1) (h : ∀ r n' μ', Q1 r n' μ' → AW sc k q L (r.toList ++ st) n' μ' Q) : AW sc k pc L (v5 :: v4 :: v3 :: v2 :: v1 :: (2, a) :: st) n μ Q := by
  refine aw_cal hm hd rfl ?_ hq hcall h
  show (match am_ois.lookup (am_cl k, idx) with | some _ => _ | none => am_call 2 k idx L _) = _
  rw [hm.2.1, hoi]
  exact am_call_v (L := L) (as := [v5, v4, v3, v2, v1]) (by decide) (by rw [hm.2.1]; exact ht) hs hci hk rfl htag (Nat.le_of_ble_eq_true hc) (Nat.le_of_ble_eq_true hml)
theorem aw_s5 {idx k' w1 w2 : Nat} {v1 v2 v3 v4 v5 : am_V} {Q1 : Option am_V → Nat → am_M → Prop} (hm : am_mi k cc o ml rt) (hd : decode cc pc = .ok (.invokestatic idx, 3)) (hq : pc + 3 = q) (hoi : am_mts.lookup (o, idx) = none) (ht : am_mls.lookup (o, idx) = some (k', w1, w2)) (hs : am_cok 1 k k' 5 = true) (htag : ([v5, v4, v3, v2, v1] : List am_V).all (fun v => decide (v.1 ≤ 2)) = true) (hc : Nat.ble (am_cats st) 8 = true) (hml : Nat.ble (am_cats [v1, v2, v3, v4, v5]) (am_ml k') = true) (hcall : AC k' [v1, v2, v3, v4, v5] n μ Q1) (h : ∀ r n' μ', Q1 r n' μ' → AW sc k q L (r.toList ++ st) n' μ' Q) : AW sc k pc L (v5 :: v4 :: v3 :: v2 :: v1 :: st) n μ Q := by
  refine aw_cal hm hd rfl ?_ hq hcall h
  show (match am_mts.lookup (am_cl k, idx) with | some (f, _) => _ | none => am_call 1 k idx L _) = _
  rw [hm.2.1, hoi]
  exact am_call_s (L := L) (as := [v5, v4, v3, v2, v1]) (by rw [hm.2.1]; exact ht) hs rfl htag (Nat.le_of_ble_eq_true hc) (Nat.le_of_ble_eq_true hml)
theorem aw_iret {x : Int} (hm : am_mi k cc o ml (some .int)) (hd : decode cc pc = .ok (.ireturn, 1)) (h : Q (some (0, x)) n μ) : AW sc k pc L [(0, x)] n μ Q := by
  refine aw_ret hm hd rfl ?_ h
  show (if (0 : Nat) = 0 ∧ (am_rt k = some .int ∨ am_rt k = some .boolean ∧ (x = 0 ∨ x = 1)) then some (Sum.inr (Sum.inr (some (0, x)))) else none) = _
  rw [if_pos ⟨rfl, Or.inl hm.2.2.2⟩]
theorem aw_zret {x : Int} (hm : am_mi k cc o ml (some .boolean)) (hd : decode cc pc = .ok (.ireturn, 1)) (hx : x = 0 ∨ x = 1) (h : Q (some (0, x)) n μ) : AW sc k pc L [(0, x)] n μ Q := by
  refine aw_ret hm hd rfl ?_ h
  show (if (0 : Nat) = 0 ∧ (am_rt k = some .int ∨ am_rt k = some .boolean ∧ (x = 0 ∨ x = 1)) then some (Sum.inr (Sum.inr (some (0, x)))) else none) = _
  rw [if_pos ⟨rfl, Or.inr ⟨hm.2.2.2, hx⟩⟩]
theorem aw_lret {x : Int} (hm : am_mi k cc o ml (some .long)) (hd : decode cc pc = .ok (.lreturn, 1)) (h : Q (some (1, x)) n μ) : AW sc k pc L [(1, x)] n μ Q := by
  refine aw_ret hm hd rfl ?_ h
  show (if (1 : Nat) = 1 ∧ am_rt k = some .long then some (Sum.inr (Sum.inr (some (1, x)))) else none) = _
  rw [if_pos ⟨rfl, hm.2.2.2⟩]
theorem aw_aret {x : Int} (hm : am_mi k cc o ml (some (.object RX3))) (hd : decode cc pc = .ok (.areturn, 1)) (h : Q (some (2, x)) n μ) : AW sc k pc L [(2, x)] n μ Q := by
  refine aw_ret hm hd rfl ?_ h
  show (if (2 : Nat) = 2 ∧ am_rt k = some (.object RX3) then some (Sum.inr (Sum.inr (some (2, x)))) else none) = _
  rw [if_pos ⟨rfl, hm.2.2.2⟩]
theorem aw_vret (hm : am_mi k cc o ml none) (hd : decode cc pc = .ok (.return_, 1)) (h : Q none n μ) : AW sc k pc L [] n μ Q := by
  refine aw_ret hm hd rfl ?_ h
  show (if am_rt k = none then some (Sum.inr (Sum.inr none)) else none) = _
  rw [if_pos hm.2.2.2]
end

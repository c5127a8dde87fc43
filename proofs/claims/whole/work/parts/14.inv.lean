set_option maxHeartbeats 1000000 in
theorem am_do_call {sc : am_Sc} {k pc : Nat} {ins : Instr} {L st : List am_V} {n : Nat} {μ : am_M} {q : Nat × List am_V × List am_V} (h : am_do sc k pc ins L st n μ = some (.inr (.inl q))) : ∃ (kd idx : Nat), ((ins = .invokevirtual idx ∧ kd = 0) ∨ (ins = .invokestatic idx ∧ kd = 1) ∨ (ins = .invokespecial idx ∧ kd = 2)) ∧ am_call kd k idx L st = some (.inr (.inl q)) := by
  cases ins with
  | iconst i =>
    simp only [am_do] at h
    repeat' (first | (cases h; done) | split at h)
  | bipush i =>
    simp only [am_do] at h
    repeat' (first | (cases h; done) | split at h)
  | sipush i =>
    simp only [am_do] at h
    repeat' (first | (cases h; done) | split at h)
  | ldc idx =>
    simp only [am_do] at h
    repeat' (first | (cases h; done) | split at h)
  | ldc2_w idx =>
    simp only [am_do] at h
    repeat' (first | (cases h; done) | split at h)
  | iinc i d =>
    simp only [am_do] at h
    repeat' (first | (cases h; done) | split at h)
  | dup =>
    simp only [am_do] at h
    repeat' (first | (cases h; done) | split at h)
  | dup_x1 =>
    simp only [am_do] at h
    repeat' (first | (cases h; done) | split at h)
  | dup2 =>
    simp only [am_do] at h
    repeat' (first | (cases h; done) | split at h)
  | pop =>
    simp only [am_do] at h
    repeat' (first | (cases h; done) | split at h)
  | pop2 =>
    simp only [am_do] at h
    repeat' (first | (cases h; done) | split at h)
  | getfield idx =>
    simp only [am_do] at h
    repeat' (first | (cases h; done) | split at h)
  | putfield idx =>
    simp only [am_do] at h
    repeat' (first | (cases h; done) | split at h)
  | arraylength =>
    simp only [am_do] at h
    repeat' (first | (cases h; done) | split at h)
  | anewarray idx =>
    simp only [am_do] at h
    repeat' (first | (cases h; done) | split at h)
  | multianewarray idx d =>
    simp only [am_do] at h
    repeat' (first | (cases h; done) | split at h)
  | new idx =>
    simp only [am_do] at h
    repeat' (first | (cases h; done) | split at h)
  | lconst i =>
    simp only [am_do] at h
    cases h
  | aconst_null =>
    simp only [am_do] at h
    cases h
  | iload i =>
    simp only [am_do] at h
    obtain ⟨x, hi, e⟩ := am_ld_inv h
    cases e
  | iload_n i =>
    simp only [am_do] at h
    obtain ⟨x, hi, e⟩ := am_ld_inv h
    cases e
  | lload i =>
    simp only [am_do] at h
    obtain ⟨x, hi, e⟩ := am_ld_inv h
    cases e
  | lload_n i =>
    simp only [am_do] at h
    obtain ⟨x, hi, e⟩ := am_ld_inv h
    cases e
  | aload i =>
    simp only [am_do] at h
    obtain ⟨v, hi, hv, e⟩ := am_lda_inv h
    cases e
  | aload_n i =>
    simp only [am_do] at h
    obtain ⟨v, hi, hv, e⟩ := am_lda_inv h
    cases e
  | istore i =>
    simp only [am_do] at h
    obtain ⟨x, rest, e0, hi, e⟩ := am_st1_inv h
    cases e
  | istore_n i =>
    simp only [am_do] at h
    obtain ⟨x, rest, e0, hi, e⟩ := am_st1_inv h
    cases e
  | astore i =>
    simp only [am_do] at h
    obtain ⟨x, rest, e0, hi, e⟩ := am_st1_inv h
    cases e
  | astore_n i =>
    simp only [am_do] at h
    obtain ⟨x, rest, e0, hi, e⟩ := am_st1_inv h
    cases e
  | lstore i =>
    simp only [am_do] at h
    obtain ⟨x, rest, e0, hi, e⟩ := am_st2_inv h
    cases e
  | lstore_n i =>
    simp only [am_do] at h
    obtain ⟨x, rest, e0, hi, e⟩ := am_st2_inv h
    cases e
  | iadd =>
    simp only [am_do] at h
    obtain ⟨x, y, rest, e0, e⟩ := am_bin_inv h
    cases e
  | isub =>
    simp only [am_do] at h
    obtain ⟨x, y, rest, e0, e⟩ := am_bin_inv h
    cases e
  | imul =>
    simp only [am_do] at h
    obtain ⟨x, y, rest, e0, e⟩ := am_bin_inv h
    cases e
  | iand =>
    simp only [am_do] at h
    obtain ⟨x, y, rest, e0, e⟩ := am_bin_inv h
    cases e
  | ior =>
    simp only [am_do] at h
    obtain ⟨x, y, rest, e0, e⟩ := am_bin_inv h
    cases e
  | ishl =>
    simp only [am_do] at h
    obtain ⟨x, y, rest, e0, e⟩ := am_bin_inv h
    cases e
  | ishr =>
    simp only [am_do] at h
    obtain ⟨x, y, rest, e0, e⟩ := am_bin_inv h
    cases e
  | ladd =>
    simp only [am_do] at h
    obtain ⟨x, y, rest, e0, e⟩ := am_bin_inv h
    cases e
  | lmul =>
    simp only [am_do] at h
    obtain ⟨x, y, rest, e0, e⟩ := am_bin_inv h
    cases e
  | lcmp =>
    simp only [am_do] at h
    obtain ⟨x, y, rest, e0, e⟩ := am_bin_inv h
    cases e
  | ineg =>
    simp only [am_do] at h
    obtain ⟨x, rest, e0, e⟩ := am_un_inv h
    cases e
  | i2l =>
    simp only [am_do] at h
    obtain ⟨x, rest, e0, e⟩ := am_un_inv h
    cases e
  | l2i =>
    simp only [am_do] at h
    obtain ⟨x, rest, e0, e⟩ := am_un_inv h
    cases e
  | if_icmp c off =>
    simp only [am_do] at h
    split at h
    · split at h
      · obtain ⟨tgt, ht, e⟩ := am_if_inv h
        cases e
      · cases h
    · cases h
  | ifCond c off =>
    simp only [am_do] at h
    split at h
    · split at h
      · obtain ⟨tgt, ht, e⟩ := am_if_inv h
        cases e
      · cases h
    · cases h
  | ifnull off =>
    simp only [am_do] at h
    split at h
    · split at h
      · obtain ⟨tgt, ht, e⟩ := am_if_inv h
        cases e
      · cases h
    · cases h
  | ifnonnull off =>
    simp only [am_do] at h
    split at h
    · split at h
      · obtain ⟨tgt, ht, e⟩ := am_if_inv h
        cases e
      · cases h
    · cases h
  | goto off =>
    simp only [am_do] at h
    obtain ⟨tgt, ht, e⟩ := am_go_inv h
    cases e
  | tableswitch dflt lo hi offs =>
    simp only [am_do] at h
    split at h
    · split at h
      · split at h
        · obtain ⟨tgt, ht, e⟩ := am_go_inv h
          cases e
        · split at h
          · obtain ⟨tgt, ht, e⟩ := am_go_inv h
            cases e
          · cases h
      · cases h
    · cases h
  | iaload =>
    simp only [am_do] at h
    unfold am_ald at h
    repeat' (first | (cases h; done) | split at h)
  | laload =>
    simp only [am_do] at h
    unfold am_ald at h
    repeat' (first | (cases h; done) | split at h)
  | aaload =>
    simp only [am_do] at h
    unfold am_ald at h
    repeat' (first | (cases h; done) | split at h)
  | iastore =>
    simp only [am_do] at h
    unfold am_ast at h
    repeat' (first | (cases h; done) | split at h)
  | lastore =>
    simp only [am_do] at h
    unfold am_ast at h
    repeat' (first | (cases h; done) | split at h)
  | aastore =>
    simp only [am_do] at h
    unfold am_ast at h
    repeat' (first | (cases h; done) | split at h)
  | newarray ty =>
    simp only [am_do] at h
    split at h
    · rename_i v rest
      by_cases h1 : v.1 = 0 ∧ 0 ≤ v.2 ∧ am_kind n = ((if newarray.typeOf ty = .int then 1 else 2), v.2.toNat) ∧ (newarray.typeOf ty = .int ∨ newarray.typeOf ty = .long)
      · rw [if_pos h1] at h; cases h
      · rw [if_neg h1] at h; cases h
    · cases h
  | invokevirtual idx =>
    simp only [am_do] at h
    exact ⟨0, idx, Or.inl ⟨rfl, rfl⟩, h⟩
  | invokestatic idx =>
    simp only [am_do] at h
    split at h
    · rename_i f w ht
      by_cases hfl : 1 ≤ am_fr k ∧ 23 ≤ am_lo k
      · rw [if_pos hfl] at h
        have h9 := am_mts3 ht
        obtain rfl | rfl | rfl | rfl : f = 0 ∨ f = 1 ∨ f = 2 ∨ f = 3 := by omega
        · obtain ⟨x, rest, e0, h2, e⟩ := am_mabs_inv (show am_mabs pc L st n μ = _ from h)
          cases e
        · obtain ⟨x, y, rest, e0, h2, e⟩ := am_m2_inv (show am_m2 0 max pc L st n μ = _ from h)
          cases e
        · obtain ⟨x, y, rest, e0, h2, e⟩ := am_m2_inv (show am_m2 0 min pc L st n μ = _ from h)
          cases e
        · obtain ⟨x, y, rest, e0, h2, e⟩ := am_m2_inv (show am_m2 1 min pc L st n μ = _ from h)
          cases e
      · rw [if_neg hfl] at h
        cases h
    · exact ⟨1, idx, Or.inr (Or.inl ⟨rfl, rfl⟩), h⟩
  | invokespecial idx =>
    simp only [am_do] at h
    split at h
    · split at h
      · split at h
        · cases h
        · cases h
      · cases h
    · exact ⟨2, idx, Or.inr (Or.inr ⟨rfl, rfl⟩), h⟩
  | ireturn =>
    simp only [am_do] at h
    split at h
    · split at h
      · cases h
      · cases h
    · cases h
  | lreturn =>
    simp only [am_do] at h
    split at h
    · split at h
      · cases h
      · cases h
    · cases h
  | areturn =>
    simp only [am_do] at h
    split at h
    · split at h
      · cases h
      · cases h
    · cases h
  | return_ =>
    simp only [am_do] at h
    split at h
    · split at h
      · cases h
      · cases h
    · cases h
  | _ => exact absurd h (by simp [am_do])
def am_isr (k : Nat) (ins : Instr) (r : Option am_V) : Prop := (ins = .ireturn ∧ ∃ x, r = some (0, x) ∧ (am_rt k = some .int ∨ am_rt k = some .boolean ∧ (x = 0 ∨ x = 1))) ∨ (ins = .lreturn ∧ ∃ x, r = some (1, x) ∧ am_rt k = some .long) ∨ (ins = .areturn ∧ ∃ x, r = some (2, x) ∧ am_rt k = some (.object RX3)) ∨ (ins = .return_ ∧ r = none ∧ am_rt k = none)
theorem am_call_nret (kd k idx : Nat) (L st : List am_V) {q : Option am_V} : ¬ am_call kd k idx L st = some (.inr (.inr q)) := by
  unfold am_call
  intro h
  split at h
  · split at h
    · split at h
      · split at h
        · cases h
        · cases h
      · split at h
        · split at h
          · cases h
          · cases h
        · cases h
    · cases h
  · cases h
set_option maxHeartbeats 1000000 in
theorem am_do_ret {sc : am_Sc} {k pc : Nat} {ins : Instr} {L st : List am_V} {n : Nat} {μ : am_M} {r : Option am_V} (h : am_do sc k pc ins L st n μ = some (.inr (.inr r))) : st = r.toList ∧ am_isr k ins r := by
  cases ins with
  | iconst i =>
    simp only [am_do] at h
    repeat' (first | (cases h; done) | split at h)
  | bipush i =>
    simp only [am_do] at h
    repeat' (first | (cases h; done) | split at h)
  | sipush i =>
    simp only [am_do] at h
    repeat' (first | (cases h; done) | split at h)
  | ldc idx =>
    simp only [am_do] at h
    repeat' (first | (cases h; done) | split at h)
  | ldc2_w idx =>
    simp only [am_do] at h
    repeat' (first | (cases h; done) | split at h)
  | iinc i d =>
    simp only [am_do] at h
    repeat' (first | (cases h; done) | split at h)
  | dup =>
    simp only [am_do] at h
    repeat' (first | (cases h; done) | split at h)
  | dup_x1 =>
    simp only [am_do] at h
    repeat' (first | (cases h; done) | split at h)
  | dup2 =>
    simp only [am_do] at h
    repeat' (first | (cases h; done) | split at h)
  | pop =>
    simp only [am_do] at h
    repeat' (first | (cases h; done) | split at h)
  | pop2 =>
    simp only [am_do] at h
    repeat' (first | (cases h; done) | split at h)
  | getfield idx =>
    simp only [am_do] at h
    repeat' (first | (cases h; done) | split at h)
  | putfield idx =>
    simp only [am_do] at h
    repeat' (first | (cases h; done) | split at h)
  | arraylength =>
    simp only [am_do] at h
    repeat' (first | (cases h; done) | split at h)
  | anewarray idx =>
    simp only [am_do] at h
    repeat' (first | (cases h; done) | split at h)
  | multianewarray idx d =>
    simp only [am_do] at h
    repeat' (first | (cases h; done) | split at h)
  | new idx =>
    simp only [am_do] at h
    repeat' (first | (cases h; done) | split at h)
  | lconst i =>
    simp only [am_do] at h
    cases h
  | aconst_null =>
    simp only [am_do] at h
    cases h
  | iload i =>
    simp only [am_do] at h
    obtain ⟨x, hi, e⟩ := am_ld_inv h
    cases e
  | iload_n i =>
    simp only [am_do] at h
    obtain ⟨x, hi, e⟩ := am_ld_inv h
    cases e
  | lload i =>
    simp only [am_do] at h
    obtain ⟨x, hi, e⟩ := am_ld_inv h
    cases e
  | lload_n i =>
    simp only [am_do] at h
    obtain ⟨x, hi, e⟩ := am_ld_inv h
    cases e
  | aload i =>
    simp only [am_do] at h
    obtain ⟨v, hi, hv, e⟩ := am_lda_inv h
    cases e
  | aload_n i =>
    simp only [am_do] at h
    obtain ⟨v, hi, hv, e⟩ := am_lda_inv h
    cases e
  | istore i =>
    simp only [am_do] at h
    obtain ⟨x, rest, e0, hi, e⟩ := am_st1_inv h
    cases e
  | istore_n i =>
    simp only [am_do] at h
    obtain ⟨x, rest, e0, hi, e⟩ := am_st1_inv h
    cases e
  | astore i =>
    simp only [am_do] at h
    obtain ⟨x, rest, e0, hi, e⟩ := am_st1_inv h
    cases e
  | astore_n i =>
    simp only [am_do] at h
    obtain ⟨x, rest, e0, hi, e⟩ := am_st1_inv h
    cases e
  | lstore i =>
    simp only [am_do] at h
    obtain ⟨x, rest, e0, hi, e⟩ := am_st2_inv h
    cases e
  | lstore_n i =>
    simp only [am_do] at h
    obtain ⟨x, rest, e0, hi, e⟩ := am_st2_inv h
    cases e
  | iadd =>
    simp only [am_do] at h
    obtain ⟨x, y, rest, e0, e⟩ := am_bin_inv h
    cases e
  | isub =>
    simp only [am_do] at h
    obtain ⟨x, y, rest, e0, e⟩ := am_bin_inv h
    cases e
  | imul =>
    simp only [am_do] at h
    obtain ⟨x, y, rest, e0, e⟩ := am_bin_inv h
    cases e
  | iand =>
    simp only [am_do] at h
    obtain ⟨x, y, rest, e0, e⟩ := am_bin_inv h
    cases e
  | ior =>
    simp only [am_do] at h
    obtain ⟨x, y, rest, e0, e⟩ := am_bin_inv h
    cases e
  | ishl =>
    simp only [am_do] at h
    obtain ⟨x, y, rest, e0, e⟩ := am_bin_inv h
    cases e
  | ishr =>
    simp only [am_do] at h
    obtain ⟨x, y, rest, e0, e⟩ := am_bin_inv h
    cases e
  | ladd =>
    simp only [am_do] at h
    obtain ⟨x, y, rest, e0, e⟩ := am_bin_inv h
    cases e
  | lmul =>
    simp only [am_do] at h
    obtain ⟨x, y, rest, e0, e⟩ := am_bin_inv h
    cases e
  | lcmp =>
    simp only [am_do] at h
    obtain ⟨x, y, rest, e0, e⟩ := am_bin_inv h
    cases e
  | ineg =>
    simp only [am_do] at h
    obtain ⟨x, rest, e0, e⟩ := am_un_inv h
    cases e
  | i2l =>
    simp only [am_do] at h
    obtain ⟨x, rest, e0, e⟩ := am_un_inv h
    cases e
  | l2i =>
    simp only [am_do] at h
    obtain ⟨x, rest, e0, e⟩ := am_un_inv h
    cases e
  | if_icmp c off =>
    simp only [am_do] at h
    split at h
    · split at h
      · obtain ⟨tgt, ht, e⟩ := am_if_inv h
        cases e
      · cases h
    · cases h
  | ifCond c off =>
    simp only [am_do] at h
    split at h
    · split at h
      · obtain ⟨tgt, ht, e⟩ := am_if_inv h
        cases e
      · cases h
    · cases h
  | ifnull off =>
    simp only [am_do] at h
    split at h
    · split at h
      · obtain ⟨tgt, ht, e⟩ := am_if_inv h
        cases e
      · cases h
    · cases h
  | ifnonnull off =>
    simp only [am_do] at h
    split at h
    · split at h
      · obtain ⟨tgt, ht, e⟩ := am_if_inv h
        cases e
      · cases h
    · cases h
  | goto off =>
    simp only [am_do] at h
    obtain ⟨tgt, ht, e⟩ := am_go_inv h
    cases e
  | tableswitch dflt lo hi offs =>
    simp only [am_do] at h
    split at h
    · split at h
      · split at h
        · obtain ⟨tgt, ht, e⟩ := am_go_inv h
          cases e
        · split at h
          · obtain ⟨tgt, ht, e⟩ := am_go_inv h
            cases e
          · cases h
      · cases h
    · cases h
  | iaload =>
    simp only [am_do] at h
    unfold am_ald at h
    repeat' (first | (cases h; done) | split at h)
  | laload =>
    simp only [am_do] at h
    unfold am_ald at h
    repeat' (first | (cases h; done) | split at h)
  | aaload =>
    simp only [am_do] at h
    unfold am_ald at h
    repeat' (first | (cases h; done) | split at h)
  | iastore =>
    simp only [am_do] at h
    unfold am_ast at h
    repeat' (first | (cases h; done) | split at h)
  | lastore =>
    simp only [am_do] at h
    unfold am_ast at h
    repeat' (first | (cases h; done) | split at h)
  | aastore =>
    simp only [am_do] at h
    unfold am_ast at h
    repeat' (first | (cases h; done) | split at h)
  | newarray ty =>
    simp only [am_do] at h
    split at h
    · rename_i v rest
      by_cases h1 : v.1 = 0 ∧ 0 ≤ v.2 ∧ am_kind n = ((if newarray.typeOf ty = .int then 1 else 2), v.2.toNat) ∧ (newarray.typeOf ty = .int ∨ newarray.typeOf ty = .long)
      · rw [if_pos h1] at h; cases h
      · rw [if_neg h1] at h; cases h
    · cases h
  | invokevirtual idx =>
    simp only [am_do] at h
    exact absurd h (am_call_nret _ _ _ _ _)
  | invokestatic idx =>
    simp only [am_do] at h
    split at h
    · rename_i f w ht
      by_cases hfl : 1 ≤ am_fr k ∧ 23 ≤ am_lo k
      · rw [if_pos hfl] at h
        have h9 := am_mts3 ht
        obtain rfl | rfl | rfl | rfl : f = 0 ∨ f = 1 ∨ f = 2 ∨ f = 3 := by omega
        · obtain ⟨x, rest, e0, h2, e⟩ := am_mabs_inv (show am_mabs pc L st n μ = _ from h)
          cases e
        · obtain ⟨x, y, rest, e0, h2, e⟩ := am_m2_inv (show am_m2 0 max pc L st n μ = _ from h)
          cases e
        · obtain ⟨x, y, rest, e0, h2, e⟩ := am_m2_inv (show am_m2 0 min pc L st n μ = _ from h)
          cases e
        · obtain ⟨x, y, rest, e0, h2, e⟩ := am_m2_inv (show am_m2 1 min pc L st n μ = _ from h)
          cases e
      · rw [if_neg hfl] at h
        cases h
    · exact absurd h (am_call_nret _ _ _ _ _)
  | invokespecial idx =>
    simp only [am_do] at h
    split at h
    · split at h
      · split at h
        · cases h
        · cases h
      · cases h
    · exact absurd h (am_call_nret _ _ _ _ _)
  | ireturn =>
    simp only [am_do] at h
    split at h
    · rename_i v
      split at h
      · rename_i h1
        cases h
        obtain ⟨v1, v2⟩ := v
        obtain ⟨h1, h2⟩ := h1
        cases h1
        exact ⟨rfl, Or.inl ⟨rfl, v2, rfl, h2⟩⟩
      · cases h
    · cases h
  | lreturn =>
    simp only [am_do] at h
    split at h
    · rename_i v
      split at h
      · rename_i h1
        cases h
        obtain ⟨v1, v2⟩ := v
        obtain ⟨h1, h2⟩ := h1
        cases h1
        exact ⟨rfl, Or.inr (Or.inl ⟨rfl, v2, rfl, h2⟩)⟩
      · cases h
    · cases h
  | areturn =>
    simp only [am_do] at h
    split at h
    · rename_i v
      split at h
      · rename_i h1
        cases h
        obtain ⟨v1, v2⟩ := v
        obtain ⟨h1, h2⟩ := h1
        cases h1
        exact ⟨rfl, Or.inr (Or.inr (Or.inl ⟨rfl, v2, rfl, h2⟩))⟩
      · cases h
    · cases h
  | return_ =>
    simp only [am_do] at h
    split at h
    · split at h
      · rename_i h1
        cases h
        exact ⟨rfl, Or.inr (Or.inr (Or.inr ⟨rfl, rfl, h1⟩))⟩
      · cases h
    · cases h
  | _ => exact absurd h (by simp [am_do])
theorem am_call_inv {kd k idx : Nat} {L st : List am_V} {k' : Nat} {as rest : List am_V} (h : am_call kd k idx L st = some (.inr (.inl (k', as, rest)))) : ∃ w1 w2 : Nat, am_mls.lookup (am_cl k, idx) = some (k', w1, w2) ∧ am_kd k' = kd ∧ am_fr k' + 1 ≤ am_fr k ∧ 19 + am_ml k' + am_lo k' ≤ am_lo k ∧ k' < am_lawk ∧ am_cats as ≤ am_ml k' ∧ am_cats rest ≤ 8 ∧ ((kd = 1 ∧ as.length = am_na k' ∧ st = as.reverse ++ rest) ∨ (kd ≠ 1 ∧ ∃ (x : Int) (as' : List am_V), as = (2, x) :: as' ∧ am_kind x = (0, am_cl k') ∧ as'.length = am_na k' ∧ st = as'.reverse ++ (2, x) :: rest)) := by
  unfold am_call at h
  split at h
  · rename_i k1 w1 w2 ht
    split at h
    · rename_i h1
      obtain ⟨h1, h2, h3, h4⟩ := h1
      split at h
      · rename_i hkd
        split at h
        · rename_i h5
          obtain ⟨h5, h6, h7, h8⟩ := h5
          cases h
          refine ⟨w1, w2, ht, h1, h2, h3, h4, h8, h7, Or.inl ⟨hkd, ?_, ?_⟩⟩
          · simp; omega
          · rw [List.reverse_reverse, List.take_append_drop]
        · cases h
      · rename_i hkd
        split at h
        · rename_i a rest1 hdr
          split at h
          · rename_i h5
            obtain ⟨h5, h6, h7, h8, h9⟩ := h5
            cases h
            obtain ⟨a1, a2⟩ := a
            cases h5
            refine ⟨w1, w2, ht, h1, h2, h3, h4, h9, h8, Or.inr ⟨hkd, a2, _, rfl, h6, ?_, ?_⟩⟩
            · have : (st.drop (am_na k')).length ≠ 0 := by rw [hdr]; simp
              simp at this ⊢
              omega
            · rw [List.reverse_reverse, ← hdr, List.take_append_drop]
          · cases h
        · cases h
    · cases h
  · cases h
theorem am_v_mls1 : am_mls.all (fun q => (decide (q.2.2.1 = 0) || decide (am_kd q.2.1 ≠ 0)) && (decide (am_kd q.2.1 ≠ 2) || decide (am_rt q.2.1 = none)) && decide (am_cl q.2.1 < 8)) = true := by decide +kernel

theorem am_mabs_inv {pc : Nat} {L st : List am_V} {n : Nat} {μ : am_M} {q : am_R} (h : am_mabs pc L st n μ = some q) : ∃ (x : Int) (rest : List am_V), st = (0, x) :: rest ∧ am_cats rest ≤ 8 ∧ q = .inl (pc + 3, L, (0, am_abs x) :: rest, n, μ) := by
  unfold am_mabs at h
  split at h
  · rename_i x rest
    split at h
    · rename_i h1
      obtain ⟨h1, h2⟩ := h1
      cases h
      obtain ⟨x1, x2⟩ := x
      cases h1
      exact ⟨x2, rest, rfl, h2, rfl⟩
    · cases h
  · cases h
theorem am_m2_inv {t : Nat} {g : Int → Int → Int} {pc : Nat} {L st : List am_V} {n : Nat} {μ : am_M} {q : am_R} (h : am_m2 t g pc L st n μ = some q) : ∃ (x y : Int) (rest : List am_V), st = (t, y) :: (t, x) :: rest ∧ am_cats rest ≤ 8 ∧ q = .inl (pc + 3, L, (t, g x y) :: rest, n, μ) := by
  unfold am_m2 at h
  split at h
  · rename_i y x rest
    split at h
    · rename_i h1
      obtain ⟨h1, h3, h2⟩ := h1
      cases h
      obtain ⟨x1, x2⟩ := x
      obtain ⟨y1, y2⟩ := y
      cases h1; cases h3
      exact ⟨x2, y2, rest, rfl, h2, rfl⟩
    · cases h
  · cases h
theorem am_mts3 {o idx f w : Nat} (h : am_mts.lookup (o, idx) = some (f, w)) : f ≤ 3 := of_decide_eq_true (List.all_eq_true.mp (show am_mts.all (fun q => decide (q.2.1 ≤ 3)) = true by decide +kernel) _ (am_lookup h))
theorem am_call_ninl (kd k idx : Nat) (L st : List am_V) {q : am_S} : ¬ am_call kd k idx L st = some (.inl q) := by
  unfold am_call
  intro h
  split at h
  · split at h
    · split at h
      · split at h
        · cases h
        · cases h
      · split at h
        · split at h
          · cases h
          · cases h
        · cases h
    · cases h
  · cases h
theorem am_if_inv {c : Prop} [Decidable c] {pc : Nat} {off : Int} {L st : List am_V} {n : Nat} {μ : am_M} {q : am_R} (h : am_if c pc off L st n μ = some q) : ∃ tgt : Nat, (pc : Int) + off = (tgt : Int) ∧ q = .inl ((if c then tgt else pc + 3), L, st, n, μ) := by
  unfold am_if at h
  split at h
  · cases h
    exact ⟨_, by omega, rfl⟩
  · cases h
theorem am_lk {ins : Instr} {len z : Nat} (hlen : am_len_ok ins len = true) (h : am_len_ok ins len = (len == z)) : len = z := eq_of_beq (h ▸ hlen)
section
variable {p : Program} {l : Launch} {e : Env} {R : Room} {s : State} {m : MethodId} {args : Array Value} {below : List Frame} {meth : Method} {c : Code} {Q : State → Prop} {D : va_G} {dA : Nat → ClassId} {b : Nat} {A : Nat → Prop} {k n0 : Nat} {ad : Nat → Nat} {n pc : Nat} {L st : List am_V} {μ : am_M} {cls : Array Slot} {H : Heap} {locs : List Loc} {sc : am_Sc} {pc' : Nat} {L' st' : List am_V} {n' : Nat} {μ' : am_M}
theorem am_kt {cd : Prop} [Decidable cd] {x y : Nat} (hc : cd) (kk : am_Kk p l e R s m args below meth c Q D dA b A k n0 ad n (if cd then x else y) L' st' n' μ') : am_Kk p l e R s m args below meth c Q D dA b A k n0 ad n x L' st' n' μ' := by
  rw [if_pos hc] at kk
  exact kk
theorem am_kf {cd : Prop} [Decidable cd] {x y : Nat} (hc : ¬ cd) (kk : am_Kk p l e R s m args below meth c Q D dA b A k n0 ad n (if cd then x else y) L' st' n' μ') : am_Kk p l e R s m args below meth c Q D dA b A k n0 ad n y L' st' n' μ' := by
  rw [if_neg hc] at kk
  exact kk
set_option maxHeartbeats 1000000 in
theorem am_do_W (hF : am_F p R s m args meth c k) (hH : am_H D dA b A s ad n μ H locs) (hL : am_L b ad L cls (am_ml k)) (hLo : am_oks n L)  (hsc : am_Scr sc b A s) (hso : am_oks n st) (hn0 : n0 ≤ n) {ins : Instr} {len : Nat} (hd : decode (am_by k) pc = .ok (ins, len)) (hlen : am_len_ok ins len = true) (h : am_do sc k pc ins L st n μ = some (.inl (pc', L', st', n', μ'))) (hc : n' - n0 ≤ R.cells) (hs : am_sl n' - am_sl n0 ≤ R.slots) (kk : am_Kk p l e R s m args below meth c Q D dA b A k n0 ad n pc' L' st' n' μ') : W p l e R s m args below meth c H locs (n - n0) (am_sl n - am_sl n0) Q (F0 m pc cls ((st).map (am_cv b ad))) := by
  cases ins with
  | iconst i =>
    obtain rfl := am_lk (z := 1) hlen rfl
    simp only [am_do] at h
    split at h
    · rename_i hi
      cases h
      exact am_o_iconst hF hH hL hLo hso hd hi kk
    · cases h
  | bipush i =>
    obtain rfl := am_lk (z := 2) hlen rfl
    simp only [am_do] at h
    split at h
    · rename_i hi
      cases h
      exact am_o_bipush hF hH hL hLo hso hd hi kk
    · cases h
  | sipush i =>
    obtain rfl := am_lk (z := 3) hlen rfl
    simp only [am_do] at h
    split at h
    · rename_i hi
      cases h
      exact am_o_sipush hF hH hL hLo hso hd hi kk
    · cases h
  | lconst i =>
    obtain rfl := am_lk (z := 1) hlen rfl
    simp only [am_do] at h
    cases h
    exact am_o_lconst hF hH hL hLo hso hd kk
  | ldc idx =>
    obtain rfl := am_lk (z := 2) hlen rfl
    simp only [am_do] at h
    split at h
    · rename_i x q ht
      cases h
      exact am_o_ldc hF hH hL hLo hso hd ht kk
    · cases h
  | ldc2_w idx =>
    obtain rfl := am_lk (z := 3) hlen rfl
    simp only [am_do] at h
    split at h
    · rename_i x q ht
      cases h
      exact am_o_ldc2 hF hH hL hLo hso hd ht kk
    · cases h
  | aconst_null =>
    obtain rfl := am_lk (z := 1) hlen rfl
    simp only [am_do] at h
    cases h
    exact am_o_null hF hH hL hLo hso hd kk
  | iload i =>
    obtain rfl := am_lk (z := 2) hlen rfl
    simp only [am_do] at h
    obtain ⟨x, hi, e⟩ := am_ld_inv h
    cases e
    exact am_o_iload hF hH hL hLo hso hi hd kk
  | iload_n i =>
    obtain rfl := am_lk (z := 1) hlen rfl
    simp only [am_do] at h
    obtain ⟨x, hi, e⟩ := am_ld_inv h
    cases e
    exact am_o_iload_n hF hH hL hLo hso hi hd kk
  | lload i =>
    obtain rfl := am_lk (z := 2) hlen rfl
    simp only [am_do] at h
    obtain ⟨x, hi, e⟩ := am_ld_inv h
    cases e
    exact am_o_lload hF hH hL hLo hso hi hd kk
  | lload_n i =>
    obtain rfl := am_lk (z := 1) hlen rfl
    simp only [am_do] at h
    obtain ⟨x, hi, e⟩ := am_ld_inv h
    cases e
    exact am_o_lload_n hF hH hL hLo hso hi hd kk
  | aload i =>
    obtain rfl := am_lk (z := 2) hlen rfl
    simp only [am_do] at h
    obtain ⟨v, hi, hv, e⟩ := am_lda_inv h
    cases e
    exact am_o_aload hF hH hL hLo hso hi hv hd kk
  | aload_n i =>
    obtain rfl := am_lk (z := 1) hlen rfl
    simp only [am_do] at h
    obtain ⟨v, hi, hv, e⟩ := am_lda_inv h
    cases e
    exact am_o_aload_n hF hH hL hLo hso hi hv hd kk
  | istore i =>
    obtain rfl := am_lk (z := 2) hlen rfl
    simp only [am_do] at h
    obtain ⟨x, rest, e0, hi, e⟩ := am_st1_inv h
    subst e0
    cases e
    exact am_o_istore hF hH hL hLo hso hi hd kk
  | istore_n i =>
    obtain rfl := am_lk (z := 1) hlen rfl
    simp only [am_do] at h
    obtain ⟨x, rest, e0, hi, e⟩ := am_st1_inv h
    subst e0
    cases e
    exact am_o_istore_n hF hH hL hLo hso hi hd kk
  | astore i =>
    obtain rfl := am_lk (z := 2) hlen rfl
    simp only [am_do] at h
    obtain ⟨x, rest, e0, hi, e⟩ := am_st1_inv h
    subst e0
    cases e
    exact am_o_astore hF hH hL hLo hso hi hd kk
  | astore_n i =>
    obtain rfl := am_lk (z := 1) hlen rfl
    simp only [am_do] at h
    obtain ⟨x, rest, e0, hi, e⟩ := am_st1_inv h
    subst e0
    cases e
    exact am_o_astore_n hF hH hL hLo hso hi hd kk
  | lstore i =>
    obtain rfl := am_lk (z := 2) hlen rfl
    simp only [am_do] at h
    obtain ⟨x, rest, e0, hi, e⟩ := am_st2_inv h
    subst e0
    cases e
    exact am_o_lstore hF hH hL hLo hso hi hd kk
  | lstore_n i =>
    obtain rfl := am_lk (z := 1) hlen rfl
    simp only [am_do] at h
    obtain ⟨x, rest, e0, hi, e⟩ := am_st2_inv h
    subst e0
    cases e
    exact am_o_lstore_n hF hH hL hLo hso hi hd kk
  | iinc i d =>
    obtain rfl := am_lk (z := 3) hlen rfl
    simp only [am_do] at h
    split at h
    · rename_i v hv
      split at h
      · rename_i h1
        obtain ⟨h1, h2⟩ := h1
        cases h
        obtain ⟨v1, v2⟩ := v
        cases h1
        exact am_o_iinc hF hH hL hLo hso hv h2 hd kk
      · cases h
    · cases h
  | iadd =>
    obtain rfl := am_lk (z := 1) hlen rfl
    simp only [am_do] at h
    obtain ⟨x, y, rest, e0, e⟩ := am_bin_inv h
    subst e0
    cases e
    exact am_o_iadd hF hH hL hLo hso hd kk
  | isub =>
    obtain rfl := am_lk (z := 1) hlen rfl
    simp only [am_do] at h
    obtain ⟨x, y, rest, e0, e⟩ := am_bin_inv h
    subst e0
    cases e
    exact am_o_isub hF hH hL hLo hso hd kk
  | imul =>
    obtain rfl := am_lk (z := 1) hlen rfl
    simp only [am_do] at h
    obtain ⟨x, y, rest, e0, e⟩ := am_bin_inv h
    subst e0
    cases e
    exact am_o_imul hF hH hL hLo hso hd kk
  | iand =>
    obtain rfl := am_lk (z := 1) hlen rfl
    simp only [am_do] at h
    obtain ⟨x, y, rest, e0, e⟩ := am_bin_inv h
    subst e0
    cases e
    exact am_o_iand hF hH hL hLo hso hd kk
  | ior =>
    obtain rfl := am_lk (z := 1) hlen rfl
    simp only [am_do] at h
    obtain ⟨x, y, rest, e0, e⟩ := am_bin_inv h
    subst e0
    cases e
    exact am_o_ior hF hH hL hLo hso hd kk
  | ishl =>
    obtain rfl := am_lk (z := 1) hlen rfl
    simp only [am_do] at h
    obtain ⟨x, y, rest, e0, e⟩ := am_bin_inv h
    subst e0
    cases e
    exact am_o_ishl hF hH hL hLo hso hd kk
  | ishr =>
    obtain rfl := am_lk (z := 1) hlen rfl
    simp only [am_do] at h
    obtain ⟨x, y, rest, e0, e⟩ := am_bin_inv h
    subst e0
    cases e
    exact am_o_ishr hF hH hL hLo hso hd kk
  | ladd =>
    obtain rfl := am_lk (z := 1) hlen rfl
    simp only [am_do] at h
    obtain ⟨x, y, rest, e0, e⟩ := am_bin_inv h
    subst e0
    cases e
    exact am_o_ladd hF hH hL hLo hso hd kk
  | lmul =>
    obtain rfl := am_lk (z := 1) hlen rfl
    simp only [am_do] at h
    obtain ⟨x, y, rest, e0, e⟩ := am_bin_inv h
    subst e0
    cases e
    exact am_o_lmul hF hH hL hLo hso hd kk
  | lcmp =>
    obtain rfl := am_lk (z := 1) hlen rfl
    simp only [am_do] at h
    obtain ⟨x, y, rest, e0, e⟩ := am_bin_inv h
    subst e0
    cases e
    exact am_o_lcmp hF hH hL hLo hso hd kk
  | ineg =>
    obtain rfl := am_lk (z := 1) hlen rfl
    simp only [am_do] at h
    obtain ⟨x, rest, e0, e⟩ := am_un_inv h
    subst e0
    cases e
    exact am_o_ineg hF hH hL hLo hso hd kk
  | i2l =>
    obtain rfl := am_lk (z := 1) hlen rfl
    simp only [am_do] at h
    obtain ⟨x, rest, e0, e⟩ := am_un_inv h
    subst e0
    cases e
    exact am_o_i2l hF hH hL hLo hso hd kk
  | l2i =>
    obtain rfl := am_lk (z := 1) hlen rfl
    simp only [am_do] at h
    obtain ⟨x, rest, e0, e⟩ := am_un_inv h
    subst e0
    cases e
    exact am_o_l2i hF hH hL hLo hso hd kk
  | if_icmp c off =>
    obtain rfl := am_lk (z := 3) hlen rfl
    simp only [am_do] at h
    split at h
    · rename_i y x rest
      split at h
      · rename_i h1
        obtain ⟨h1, h2⟩ := h1
        obtain ⟨y1, y2⟩ := y
        obtain ⟨x1, x2⟩ := x
        cases h1; cases h2
        obtain ⟨tgt, ht, e⟩ := am_if_inv h
        cases e
        cases c with
        | eq => exact am_o_icmp_eq hF hH hL hLo hso hd ht (fun z => am_kt (show am_cc .eq x2 y2 = true from decide_eq_true z) kk) (fun z => am_kf (show ¬ am_cc .eq x2 y2 = true from fun q => z (of_decide_eq_true q)) kk)
        | ne => exact am_o_icmp_ne hF hH hL hLo hso hd ht (fun z => am_kt (show am_cc .ne x2 y2 = true from decide_eq_true z) kk) (fun z => am_kf (show ¬ am_cc .ne x2 y2 = true from fun q => z (of_decide_eq_true q)) kk)
        | lt => exact am_o_icmp_lt hF hH hL hLo hso hd ht (fun z => am_kt (show am_cc .lt x2 y2 = true from decide_eq_true z) kk) (fun z => am_kf (show ¬ am_cc .lt x2 y2 = true from fun q => z (of_decide_eq_true q)) kk)
        | ge => exact am_o_icmp_ge hF hH hL hLo hso hd ht (fun z => am_kt (show am_cc .ge x2 y2 = true from decide_eq_true z) kk) (fun z => am_kf (show ¬ am_cc .ge x2 y2 = true from fun q => z (of_decide_eq_true q)) kk)
        | gt => exact am_o_icmp_gt hF hH hL hLo hso hd ht (fun z => am_kt (show am_cc .gt x2 y2 = true from decide_eq_true z) kk) (fun z => am_kf (show ¬ am_cc .gt x2 y2 = true from fun q => z (of_decide_eq_true q)) kk)
        | le => exact am_o_icmp_le hF hH hL hLo hso hd ht (fun z => am_kt (show am_cc .le x2 y2 = true from decide_eq_true z) kk) (fun z => am_kf (show ¬ am_cc .le x2 y2 = true from fun q => z (of_decide_eq_true q)) kk)
      · cases h
    · cases h
  | ifCond c off =>
    obtain rfl := am_lk (z := 3) hlen rfl
    simp only [am_do] at h
    split at h
    · rename_i x rest
      split at h
      · rename_i h1
        obtain ⟨x1, x2⟩ := x
        cases h1
        obtain ⟨tgt, ht, e⟩ := am_if_inv h
        cases e
        cases c with
        | eq => exact am_o_if_eq (y := 0) hF hH hL hLo hso hd ht (fun z => am_kt (show am_cc .eq x2 0 = true from decide_eq_true z) kk) (fun z => am_kf (show ¬ am_cc .eq x2 0 = true from fun q => z (of_decide_eq_true q)) kk)
        | ne => exact am_o_if_ne (y := 0) hF hH hL hLo hso hd ht (fun z => am_kt (show am_cc .ne x2 0 = true from decide_eq_true z) kk) (fun z => am_kf (show ¬ am_cc .ne x2 0 = true from fun q => z (of_decide_eq_true q)) kk)
        | lt => exact am_o_if_lt (y := 0) hF hH hL hLo hso hd ht (fun z => am_kt (show am_cc .lt x2 0 = true from decide_eq_true z) kk) (fun z => am_kf (show ¬ am_cc .lt x2 0 = true from fun q => z (of_decide_eq_true q)) kk)
        | ge => exact am_o_if_ge (y := 0) hF hH hL hLo hso hd ht (fun z => am_kt (show am_cc .ge x2 0 = true from decide_eq_true z) kk) (fun z => am_kf (show ¬ am_cc .ge x2 0 = true from fun q => z (of_decide_eq_true q)) kk)
        | gt => exact am_o_if_gt (y := 0) hF hH hL hLo hso hd ht (fun z => am_kt (show am_cc .gt x2 0 = true from decide_eq_true z) kk) (fun z => am_kf (show ¬ am_cc .gt x2 0 = true from fun q => z (of_decide_eq_true q)) kk)
        | le => exact am_o_if_le (y := 0) hF hH hL hLo hso hd ht (fun z => am_kt (show am_cc .le x2 0 = true from decide_eq_true z) kk) (fun z => am_kf (show ¬ am_cc .le x2 0 = true from fun q => z (of_decide_eq_true q)) kk)
      · cases h
    · cases h
  | ifnull off =>
    obtain rfl := am_lk (z := 3) hlen rfl
    simp only [am_do] at h
    split at h
    · rename_i x rest
      split at h
      · rename_i h1
        obtain ⟨x1, x2⟩ := x
        cases h1
        obtain ⟨tgt, ht, e⟩ := am_if_inv h
        cases e
        exact am_o_ifnull hF hH hL hLo hso hd ht (fun z => by rw [if_pos z] at kk; exact kk) (fun z => by rw [if_neg z] at kk; exact kk)
      · cases h
    · cases h
  | ifnonnull off =>
    obtain rfl := am_lk (z := 3) hlen rfl
    simp only [am_do] at h
    split at h
    · rename_i x rest
      split at h
      · rename_i h1
        obtain ⟨x1, x2⟩ := x
        cases h1
        obtain ⟨tgt, ht, e⟩ := am_if_inv h
        cases e
        exact am_o_ifnonnull hF hH hL hLo hso hd ht (fun z => by rw [if_pos z] at kk; exact kk) (fun z => by rw [if_neg z] at kk; exact kk)
      · cases h
    · cases h
  | goto off =>
    obtain rfl := am_lk (z := 3) hlen rfl
    simp only [am_do] at h
    obtain ⟨tgt, ht, e⟩ := am_go_inv h
    cases e
    exact am_o_goto hF hH hL hLo hso hd ht kk
  | tableswitch dflt lo hi offs =>
    simp only [am_do] at h
    split at h
    · rename_i x rest
      split at h
      · rename_i h1
        obtain ⟨x1, x2⟩ := x
        cases h1
        split at h
        · rename_i h2
          obtain ⟨tgt, ht, e⟩ := am_go_inv h
          cases e
          exact am_o_table hF hH hL hLo hso hd (Or.inl ⟨h2, ht⟩) kk
        · rename_i h2
          split at h
          · rename_i off ho
            obtain ⟨tgt, ht, e⟩ := am_go_inv h
            cases e
            exact am_o_table hF hH hL hLo hso hd (Or.inr ⟨h2, off, ho, ht⟩) kk
          · cases h
      · cases h
    · cases h
  | dup =>
    obtain rfl := am_lk (z := 1) hlen rfl
    simp only [am_do] at h
    split at h
    · split at h
      · rename_i h1
        cases h
        exact am_o_dup hF hH hL hLo hso h1 hd kk
      · cases h
    · cases h
  | dup_x1 =>
    obtain rfl := am_lk (z := 1) hlen rfl
    simp only [am_do] at h
    split at h
    · split at h
      · rename_i h1
        cases h
        exact am_o_dup_x1 hF hH hL hLo hso h1.1 h1.2 hd kk
      · cases h
    · cases h
  | dup2 =>
    obtain rfl := am_lk (z := 1) hlen rfl
    simp only [am_do] at h
    split at h
    · split at h
      · rename_i h1
        cases h
        exact am_o_dup2 hF hH hL hLo hso h1.1 h1.2 hd kk
      · cases h
    · cases h
  | pop =>
    obtain rfl := am_lk (z := 1) hlen rfl
    simp only [am_do] at h
    split at h
    · split at h
      · rename_i h1
        cases h
        exact am_o_pop hF hH hL hLo hso h1 hd kk
      · cases h
    · cases h
  | pop2 =>
    obtain rfl := am_lk (z := 1) hlen rfl
    simp only [am_do] at h
    split at h
    · rename_i v rest
      split at h
      · rename_i h1
        cases h
        obtain ⟨v1, v2⟩ := v
        cases h1
        exact am_o_pop2 hF hH hL hLo hso hd kk
      · cases h
    · cases h
  | getfield idx =>
    obtain rfl := am_lk (z := 3) hlen rfl
    simp only [am_do] at h
    split at h
    · rename_i q w ht
      split at h
      · rename_i a rest
        split at h
        · rename_i h1
          obtain ⟨h1, h2⟩ := h1
          cases h
          obtain ⟨a1, a2⟩ := a
          cases h1
          exact am_o_get hF hH hL hLo hso hd ht h2 kk
        · cases h
      · cases h
    · cases h
  | putfield idx =>
    obtain rfl := am_lk (z := 3) hlen rfl
    simp only [am_do] at h
    split at h
    · rename_i q w ht
      split at h
      · rename_i v a rest
        split at h
        · rename_i h1
          obtain ⟨h1, h2, h3, h4, h5⟩ := h1
          cases h
          obtain ⟨a1, a2⟩ := a
          obtain ⟨v1, v2⟩ := v
          cases h1
          dsimp only at h3
          subst h3
          exact am_o_put hF hH hL hLo hso hd ht h2 h4 h5 kk
        · cases h
      · cases h
    · cases h
  | iaload =>
    obtain rfl := am_lk (z := 1) hlen rfl
    simp only [am_do] at h
    unfold am_ald at h
    split at h
    · rename_i j a rest
      split at h
      · rename_i h1
        obtain ⟨h1, h2, h3, h4, h5⟩ := h1
        cases h
        obtain ⟨j1, j2⟩ := j
        obtain ⟨a1, a2⟩ := a
        cases h1; cases h2
        obtain ⟨z, hz⟩ : ∃ z, z = am_kind a2 := ⟨_, rfl⟩
        obtain ⟨z1, z2⟩ := z
        dsimp only at h3 h4 h5
        rw [← hz] at h3 h5
        have h6 : z1 = 1 := by simpa using h3
        subst h6
        exact am_o_iald hF hH hL hLo hso hd hz.symm h4 h5 kk
      · split at h
        · rename_i ln xs
          split at h
          · rename_i h1
            obtain ⟨-, h1, h2, h3, h4⟩ := h1
            cases h
            obtain ⟨j1, j2⟩ := j
            obtain ⟨a1, a2⟩ := a
            cases h1; cases h2
            exact am_o_sld hF hH hL hLo hsc rfl hso hd h3 h4 kk
          · cases h
        · cases h
    · cases h
  | laload =>
    obtain rfl := am_lk (z := 1) hlen rfl
    simp only [am_do] at h
    unfold am_ald at h
    split at h
    · rename_i j a rest
      split at h
      · rename_i h1
        obtain ⟨h1, h2, h3, h4, h5⟩ := h1
        cases h
        obtain ⟨j1, j2⟩ := j
        obtain ⟨a1, a2⟩ := a
        cases h1; cases h2
        obtain ⟨z, hz⟩ : ∃ z, z = am_kind a2 := ⟨_, rfl⟩
        obtain ⟨z1, z2⟩ := z
        dsimp only at h3 h4 h5
        rw [← hz] at h3 h5
        have h6 : z1 = 2 := by simpa using h3
        subst h6
        exact am_o_lald hF hH hL hLo hso hd hz.symm h4 h5 kk
      · cases h
    · cases h
  | aaload =>
    obtain rfl := am_lk (z := 1) hlen rfl
    simp only [am_do] at h
    unfold am_ald at h
    split at h
    · rename_i j a rest
      split at h
      · rename_i h1
        obtain ⟨h1, h2, h3, h4, h5⟩ := h1
        cases h
        obtain ⟨j1, j2⟩ := j
        obtain ⟨a1, a2⟩ := a
        cases h1; cases h2
        obtain ⟨z, hz⟩ : ∃ z, z = am_kind a2 := ⟨_, rfl⟩
        obtain ⟨z1, z2⟩ := z
        dsimp only at h3 h4 h5
        rw [← hz] at h3 h5
        have h6 : z1 = 3 ∨ z1 = 4 := by simpa using h3
        rcases h6 with h6 | h6
        · subst h6
          exact am_o_aald hF hH hL hLo hso hd hz.symm h4 h5 kk
        · subst h6
          exact am_o_ald4 hF hH hL hLo hso hd hz.symm h4 h5 kk
      · cases h
    · cases h
  | iastore =>
    obtain rfl := am_lk (z := 1) hlen rfl
    simp only [am_do] at h
    unfold am_ast at h
    split at h
    · rename_i x j a rest
      split at h
      · rename_i h1
        obtain ⟨h0, h1, h2, h3, h4, h5, h6⟩ := h1
        cases h
        obtain ⟨x1, x2⟩ := x
        obtain ⟨j1, j2⟩ := j
        obtain ⟨a1, a2⟩ := a
        cases h0; cases h1; cases h2
        obtain ⟨z, hz⟩ : ∃ z, z = am_kind a2 := ⟨_, rfl⟩
        obtain ⟨z1, z2⟩ := z
        dsimp only at h3 h4 h5
        rw [← hz] at h3 h5
        cases h3
        exact am_o_iast hF hH hL hLo hso hd hz.symm  h4 h5 kk
      · cases h
    · cases h
  | lastore =>
    obtain rfl := am_lk (z := 1) hlen rfl
    simp only [am_do] at h
    unfold am_ast at h
    split at h
    · rename_i x j a rest
      split at h
      · rename_i h1
        obtain ⟨h0, h1, h2, h3, h4, h5, h6⟩ := h1
        cases h
        obtain ⟨x1, x2⟩ := x
        obtain ⟨j1, j2⟩ := j
        obtain ⟨a1, a2⟩ := a
        cases h0; cases h1; cases h2
        obtain ⟨z, hz⟩ : ∃ z, z = am_kind a2 := ⟨_, rfl⟩
        obtain ⟨z1, z2⟩ := z
        dsimp only at h3 h4 h5
        rw [← hz] at h3 h5
        cases h3
        exact am_o_last hF hH hL hLo hso hd hz.symm  h4 h5 kk
      · cases h
    · cases h
  | aastore =>
    obtain rfl := am_lk (z := 1) hlen rfl
    simp only [am_do] at h
    unfold am_ast at h
    split at h
    · rename_i x j a rest
      split at h
      · rename_i h1
        obtain ⟨h0, h1, h2, h3, h4, h5, h6⟩ := h1
        cases h
        obtain ⟨x1, x2⟩ := x
        obtain ⟨j1, j2⟩ := j
        obtain ⟨a1, a2⟩ := a
        cases h0; cases h1; cases h2
        obtain ⟨z, hz⟩ : ∃ z, z = am_kind a2 := ⟨_, rfl⟩
        obtain ⟨z1, z2⟩ := z
        dsimp only at h3 h4 h5
        rw [← hz] at h3 h5
        cases h3
        exact am_o_aast hF hH hL hLo hso hd hz.symm (h6 rfl) h4 h5 kk
      · cases h
    · cases h
  | arraylength =>
    obtain rfl := am_lk (z := 1) hlen rfl
    simp only [am_do] at h
    split at h
    · rename_i a rest
      split at h
      · rename_i h1
        obtain ⟨h1, h2⟩ := h1
        cases h
        obtain ⟨a1, a2⟩ := a
        cases h1
        exact am_o_alen hF hH hL hLo hso hd rfl h2 (am_kind_lt a2) kk
      · split at h
        · rename_i ln xs
          split at h
          · rename_i h1
            cases h
            obtain ⟨a1, a2⟩ := a
            cases h1
            exact am_o_slen hF hH hL hLo hsc rfl hso hd kk
          · cases h
        · cases h
    · cases h
  | newarray ty =>
    obtain rfl := am_lk (z := 2) hlen rfl
    simp only [am_do] at h
    split at h
    · rename_i v rest
      by_cases h1 : v.1 = 0 ∧ 0 ≤ v.2 ∧ am_kind n = ((if newarray.typeOf ty = .int then 1 else 2), v.2.toNat) ∧ (newarray.typeOf ty = .int ∨ newarray.typeOf ty = .long)
      · rw [if_pos h1] at h
        obtain ⟨v1, v2⟩ := v
        have h2 := h1.2.1
        have h3 := h1.2.2.1
        have h4 := h1.2.2.2
        have h0 : v1 = 0 := h1.1
        clear h1
        subst h0
        cases h
        dsimp only at h2 h3
        by_cases h5 : newarray.typeOf ty = .int
        · rw [if_pos h5] at h3
          exact am_o_newi hF hH hL hLo hso hd h5 h2 h3 hn0 hc hs kk
        · rw [if_neg h5] at h3
          exact am_o_newl hF hH hL hLo hso hd (h4.resolve_left h5) h2 h3 hn0 hc hs kk
      · rw [if_neg h1] at h
        cases h
    · cases h
  | anewarray idx =>
    obtain rfl := am_lk (z := 3) hlen rfl
    simp only [am_do] at h
    split at h
    · rename_i v rest
      split at h
      · rename_i h1
        obtain ⟨h1, h2, h3, h4⟩ := h1
        cases h
        obtain ⟨v1, v2⟩ := v
        cases h1
        exact am_o_newn hF hH hL hLo hso hd h4 h2 h3 hn0 hc hs kk
      · cases h
    · cases h
  | multianewarray idx d =>
    obtain rfl := am_lk (z := 4) hlen rfl
    simp only [am_do] at h
    split at h
    · rename_i v w rest
      split at h
      · rename_i h1
        obtain ⟨h0, h1, h2, h3, h4, h5, h6, h7, h8⟩ := h1
        cases h
        subst h0
        obtain ⟨v1, v2⟩ := v
        obtain ⟨w1, w2⟩ := w
        cases h1; cases h2
        exact am_o_mna hF hH hL hLo hso hd h8 h3 h4 h5 h6 h7 hn0 hc hs kk
      · cases h
    · cases h
  | new idx =>
    obtain rfl := am_lk (z := 3) hlen rfl
    simp only [am_do] at h
    split at h
    · rename_i ci w ht
      split at h
      · rename_i h1
        cases h
        exact am_o_new hF hH hL hLo hso hd ht h1.2 h1.1 hn0 hc hs kk
      · cases h
    · cases h
  | invokespecial idx =>
    obtain rfl := am_lk (z := 3) hlen rfl
    simp only [am_do] at h
    split at h
    · rename_i w ht
      split at h
      · rename_i a rest
        split at h
        · rename_i h1
          obtain ⟨h1, h2, h3, h4, h5⟩ := h1
          cases h
          obtain ⟨a1, a2⟩ := a
          cases h1
          exact am_o_oinit hF hH hL hLo hso hd ht h2 h3 h4 h5 kk
        · cases h
      · cases h
    · exact absurd h (am_call_ninl _ _ _ _ _)
  | invokevirtual idx =>
    obtain rfl := am_lk (z := 3) hlen rfl
    simp only [am_do] at h
    exact absurd h (am_call_ninl _ _ _ _ _)
  | invokestatic idx =>
    obtain rfl := am_lk (z := 3) hlen rfl
    simp only [am_do] at h
    split at h
    · rename_i f w ht
      by_cases hfl : 1 ≤ am_fr k ∧ 23 ≤ am_lo k
      · rw [if_pos hfl] at h
        have h9 := am_mts3 ht
        obtain rfl | rfl | rfl | rfl : f = 0 ∨ f = 1 ∨ f = 2 ∨ f = 3 := by omega
        · obtain ⟨x, rest, e0, h2, e⟩ := am_mabs_inv (show am_mabs pc L st n μ = _ from h)
          subst e0
          cases e
          exact am_o_abs hF hH hL hLo hso hd ht h2 hfl.1 hfl.2 hc hs kk
        · obtain ⟨x, y, rest, e0, h2, e⟩ := am_m2_inv (show am_m2 0 max pc L st n μ = _ from h)
          subst e0
          cases e
          exact am_o_max hF hH hL hLo hso hd ht h2 hfl.1 hfl.2 hc hs kk
        · obtain ⟨x, y, rest, e0, h2, e⟩ := am_m2_inv (show am_m2 0 min pc L st n μ = _ from h)
          subst e0
          cases e
          exact am_o_min hF hH hL hLo hso hd ht h2 hfl.1 hfl.2 hc hs kk
        · obtain ⟨x, y, rest, e0, h2, e⟩ := am_m2_inv (show am_m2 1 min pc L st n μ = _ from h)
          subst e0
          cases e
          exact am_o_minl hF hH hL hLo hso hd ht h2 hfl.1 hfl.2 hc hs kk
      · rw [if_neg hfl] at h
        cases h
    · exact absurd h (am_call_ninl _ _ _ _ _)
  | ireturn =>
    obtain rfl := am_lk (z := 1) hlen rfl
    simp only [am_do] at h
    split at h
    · split at h
      · cases h
      · cases h
    · cases h
  | lreturn =>
    obtain rfl := am_lk (z := 1) hlen rfl
    simp only [am_do] at h
    split at h
    · split at h
      · cases h
      · cases h
    · cases h
  | areturn =>
    obtain rfl := am_lk (z := 1) hlen rfl
    simp only [am_do] at h
    split at h
    · split at h
      · cases h
      · cases h
    · cases h
  | return_ =>
    obtain rfl := am_lk (z := 1) hlen rfl
    simp only [am_do] at h
    split at h
    · split at h
      · cases h
      · cases h
    · cases h
  | _ => exact absurd h (by simp [am_do])
end

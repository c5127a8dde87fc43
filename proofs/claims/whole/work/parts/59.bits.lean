/-! bits of a number (rows b_or, b_shl, b_sshr begun from the kit's BITS.to-paste); brackets: what they are -/
def bq (x : Int32) (i : Nat) : Bool := x.toBitVec.getLsbD i
theorem bq_or (x y : Int32) (i : Nat) : bq (x ||| y) i = (bq x i || bq y i) := by unfold bq; rw [Int32.toBitVec_or, BitVec.getLsbD_or]
theorem bq_sl : ∀ n, n < 32 → ((nI n &&& 31).toBitVec.smod 32).toNat = n := by decide +kernel
theorem bq_shl (n : Nat) (hn : n < 32) (x : Int32) {i : Nat} (hi : i < 32) : bq (x <<< (nI n &&& 31)) i = (decide (n ≤ i) && bq x (i - n)) := by
  unfold bq
  rw [Int32.toBitVec_shiftLeft]
  show (x.toBitVec <<< ((nI n &&& 31).toBitVec.smod 32).toNat).getLsbD i = _
  rw [bq_sl n hn, BitVec.getLsbD_shiftLeft]
  rcases Nat.lt_or_ge i n with h | h
  · simp [h, Nat.not_le.mpr h]
  · simp [hi, h, Nat.not_lt.mpr h]
theorem bq_sshr (n : Nat) (hn : n < 32) (x : Int32) {i : Nat} (hi : i < 32) : bq (x >>> (nI n &&& 31)) i = if n + i < 32 then bq x (n + i) else bq x 31 := by
  unfold bq
  rw [Int32.toBitVec_shiftRight]
  show (x.toBitVec.sshiftRight ((nI n &&& 31).toBitVec.smod 32).toNat).getLsbD i = _
  rw [bq_sl n hn, BitVec.getLsbD_sshiftRight, BitVec.msb_eq_getLsbD_last]
  simp [hi]
theorem bq_1 : ∀ i, i < 32 → bq 1 i = decide (i = 0) := by decide +kernel
theorem nI_int (n : Nat) : Int32.ofInt (n : Int) = nI n := by
  unfold nI
  apply Int32.toBitVec_inj.mp
  show BitVec.ofInt 32 (n : Int) = BitVec.ofNat 32 n
  exact BitVec.ofInt_natCast 32 n
theorem am_bit_bq {x : Int} {i : Nat} (hi : i < 32) : am_bit x (i : Int) = 1 ↔ bq (Int32.ofInt x) i = true := by
  unfold am_bit
  rw [Int32.ofInt_toInt, nI_int]
  have h := pk_and (Int32.ofInt x >>> (nI i &&& 31)) (m := 1) 1 (by decide)
  rw [show (Int32.ofInt 1 : Int32) = 1 from rfl, h]
  have h2 := bq_sshr i hi (Int32.ofInt x) (i := 0) (by decide)
  rw [Nat.add_zero, if_pos hi] at h2
  rw [← h2]
  unfold bq
  generalize (Int32.ofInt x >>> (nI i &&& 31)).toBitVec = z
  rw [BitVec.getLsbD, Nat.testBit_zero]
  have h3 : z.toNat % 2 ^ 1 < 2 := Nat.mod_lt _ (by decide)
  rw [show (2 : Nat) ^ 1 = 2 from rfl] at h3 ⊢
  rcases Nat.lt_or_ge (z.toNat % 2) 1 with h4 | h4
  · have : z.toNat % 2 = 0 := by omega
    rw [this]
    decide
  · have : z.toNat % 2 = 1 := by omega
    rw [this]
    decide
def am_or1 (x c : Int) : Int := (Int32.ofInt x ||| Int32.ofInt (Int32.ofInt 1 <<< (Int32.ofInt c &&& 31)).toInt).toInt
theorem am_or1_bit {x c i : Int} (c0 : 0 ≤ c) (c1 : c < 32) (i0 : 0 ≤ i) (i1 : i < 32) : am_bit (am_or1 x c) i = 1 ↔ am_bit x i = 1 ∨ i = c := by
  obtain ⟨c', rfl⟩ : ∃ n : Nat, c = (n : Int) := ⟨c.toNat, by omega⟩
  obtain ⟨i', rfl⟩ : ∃ n : Nat, i = (n : Int) := ⟨i.toNat, by omega⟩
  rw [am_bit_bq (by omega), am_bit_bq (by omega)]
  unfold am_or1
  rw [Int32.ofInt_toInt, Int32.ofInt_toInt, nI_int, bq_or, bq_shl c' (by omega) _ (by omega), show (Int32.ofInt 1 : Int32) = 1 from rfl]
  by_cases h : c' ≤ i'
  · rw [bq_1 _ (by omega)]
    simp [h]
    constructor
    · rintro (z | z)
      · exact Or.inl z
      · exact Or.inr (by omega)
    · rintro (z | z)
      · exact Or.inl z
      · exact Or.inr (by omega)
  · simp [h]
    intro z
    omega
theorem am_bit_0 {i : Int} (i0 : 0 ≤ i) (i1 : i < 32) : ¬ am_bit 0 i = 1 := by
  obtain ⟨i', rfl⟩ : ∃ n : Nat, i = (n : Int) := ⟨i.toNat, by omega⟩
  rw [am_bit_bq (by omega)]
  unfold bq
  simp
/-- as many places as there are columns -/
theorem pigeon : ∀ (x : Nat) (l : List Int), (∀ c : Nat, c < x → (c : Int) ∈ l) → x ≤ l.length := by
  intro x
  induction x with
  | zero => intro l _; exact Nat.zero_le _
  | succ x ih =>
    intro l h
    obtain ⟨s, t, hst⟩ := List.append_of_mem (h x (Nat.lt_succ_self x))
    have := ih (s ++ t) (fun c hc => by
      have h1 := h c (by omega)
      rw [hst] at h1
      rcases List.mem_append.mp h1 with h1 | h1
      · exact List.mem_append_left _ h1
      · rcases List.mem_cons.mp h1 with h1 | h1
        · omega
        · exact List.mem_append_right _ h1)
    rw [hst]
    simp at this ⊢
    omega
/-- ahead in ORDER -/
def ah (m : am_M) (k n : Int) : Prop := m 34 k < m 34 n ∨ (m 34 k = m 34 n ∧ k < n)
theorem md_nt_pw {m : am_M} {l : Int} : ∀ N : Nat, (md_nt m l N).Pairwise (ah m) := by
  intro N
  induction N with
  | zero => exact List.Pairwise.nil
  | succ N ih =>
    unfold md_nt
    rw [List.pairwise_append]
    refine ⟨ih, ?_, fun a ha b hb => ?_⟩
    · split <;> simp
    · split at hb
      · have : b = (N : Int) := by simpa using hb
        rename_i hc
        simp at hc
        have h1 := md_nt_mem ha
        rw [this]
        right
        omega
      · simp at hb
theorem md_hr_pw {m : am_M} {fr : Int} : ∀ M : Nat, (md_hr m fr M).Pairwise (ah m) := by
  intro M
  induction M with
  | zero => exact List.Pairwise.nil
  | succ M ih =>
    unfold md_hr
    rw [List.pairwise_append]
    refine ⟨ih, md_nt_pw _, fun a ha b hb => ?_⟩
    have h1 := md_hr_mem ha
    have h2 := md_nt_mem hb
    left
    omega
theorem ah_irr {m : am_M} {k n : Int} (h : ah m k n) (h2 : ah m n k) : False := by unfold ah at h h2; omega
theorem ah_pre {m : am_M} {pre suf : List Int} {n k : Int} {fr : Int} {M : Nat} (hO : md_hr m fr M = pre ++ n :: suf) (hk : k ∈ md_hr m fr M) : k ∈ pre ↔ ah m k n := by
  have hp := md_hr_pw (m := m) (fr := fr) M
  rw [hO, List.pairwise_append] at hp
  constructor
  · intro h
    exact hp.2.2 k h n List.mem_cons_self
  · intro h
    rw [hO] at hk
    rcases List.mem_append.mp hk with hk | hk
    · exact hk
    · rcases List.mem_cons.mp hk with hk | hk
      · rw [hk] at h; exact absurd h (fun z => ah_irr z z)
      · exact absurd (List.rel_of_pairwise_cons hp.2.1 hk) (fun z => ah_irr z h)
def bF (m : am_M) (p k : Int) : Int := max (m 34 k) (m 45 p)
def bL (μ m : am_M) (p k : Int) : Int := min (μ 43 k) (m 45 p + m 46 p - 1)
/-- it has a bracket there -/
def bH (μ m : am_M) (p k : Int) : Prop := μ 43 k ≠ -1 ∧ bF m p k ≤ bL μ m p k
/-- it is ahead, on its side, and meets it -/
def bM (μ m : am_M) (p n k : Int) : Prop := k ∈ md_hr m 0 (m 32 7).toNat ∧ ah m k n ∧ bH μ m p k ∧ m 51 k = m 51 n ∧ bF m p n ≤ bL μ m p k
def IsC (μ m : am_M) (p : Int) (col : Int → Int) (n : Int) : Prop := 0 ≤ col n ∧ (∀ k, bM μ m p n k → col k ≠ col n) ∧ ∀ c, 0 ≤ c → c < col n → ∃ k, bM μ m p n k ∧ col k = c
theorem IsC_uniq {μ m : am_M} {p s : Int} {c1 c2 : Int → Int} (h1 : ∀ k ∈ md_hr m 0 (m 32 7).toNat, bH μ m p k → m 51 k = s → IsC μ m p c1 k) (h2 : ∀ k ∈ md_hr m 0 (m 32 7).toNat, bH μ m p k → m 51 k = s → IsC μ m p c2 k) : ∀ k ∈ md_hr m 0 (m 32 7).toNat, bH μ m p k → m 51 k = s → c1 k = c2 k := by
  have F : ∀ (d : Nat) (pre suf : List Int), pre.length = d → md_hr m 0 (m 32 7).toNat = pre ++ suf → ∀ k ∈ pre, bH μ m p k → m 51 k = s → c1 k = c2 k := by
    intro d
    induction d with
    | zero => intro pre suf hd _ k hk; rw [List.length_eq_zero_iff.mp hd] at hk; simp at hk
    | succ d ih =>
      intro pre suf hd hO k hk hb hs
      rcases List.eq_nil_or_concat pre with hp | ⟨q, n, hp⟩
      · rw [hp] at hd; cases hd
      rw [List.concat_eq_append] at hp
      have hql : q.length = d := by rw [hp] at hd; simpa using hd
      have hO2 : md_hr m 0 (m 32 7).toNat = q ++ n :: suf := by rw [hO, hp]; simp
      have ihq := ih q (n :: suf) hql hO2
      rw [hp] at hk
      rcases List.mem_append.mp hk with hk | hk
      · exact ihq k hk hb hs
      · have hkn : k = n := by simpa using hk
        subst hkn
        have hkm : k ∈ md_hr m 0 (m 32 7).toNat := by rw [hO2]; simp
        obtain ⟨a1, a2, a3⟩ := h1 k hkm hb hs
        obtain ⟨b1, b2, b3⟩ := h2 k hkm hb hs
        have hag : ∀ k', bM μ m p k k' → c1 k' = c2 k' := fun k' hk' => ihq k' ((ah_pre hO2 hk'.1).mpr hk'.2.1) hk'.2.2.1 (hk'.2.2.2.1.trans hs)
        rcases Int.lt_or_le (c1 k) (c2 k) with c | c
        · obtain ⟨k', q1, q2⟩ := b3 (c1 k) a1 c
          exact absurd ((hag k' q1).trans q2) (a2 k' q1)
        · rcases Int.lt_or_le (c2 k) (c1 k) with c' | c'
          · obtain ⟨k', q1, q2⟩ := a3 (c2 k) b1 c'
            exact absurd ((hag k' q1).symm.trans q2) (b2 k' q1)
          · omega
  intro k hk
  exact F _ _ [] rfl (by simp) k hk

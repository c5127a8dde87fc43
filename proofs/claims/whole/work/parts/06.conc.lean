/-! what an abstract state stands for -/
def am_rf (ad : Nat → Nat) (x : Int) : Option Nat := if x < 0 then none else some (ad x.toNat)
def am_cv (b : Nat) (ad : Nat → Nat) (v : am_V) : Value := match v.1 with
  | 0 => .int (Int32.ofInt v.2)
  | 1 => .long (Int64.ofInt v.2)
  | 2 => va_rf (am_rf ad v.2)
  | 3 => .ref b
  | _ => .null
def am_cell (dA : Nat → ClassId) (b : Nat) (ad : Nat → Nat) (k : Nat × Nat) (f : Int → Int) : va_E := match k.1 with
  | 0 => .inr (k.2, (List.range (am_N k.2)).map (fun (j : Nat) => am_cv b ad (am_ft k.2 j, f (j : Int))))
  | 1 => .inl (dA 0, k.2, .inl (fun j => Int32.ofInt (f (j : Int))))
  | 2 => .inl (dA 1, k.2, .inr (.inl (fun j => Int64.ofInt (f (j : Int)))))
  | 3 => .inl (dA 2, k.2, .inr (.inr (.inr (.inr (fun j => am_rf ad (f (j : Int)))))))
  | _ => .inl (dA 3, k.2, .inr (.inr (.inr (.inr (fun j => am_rf ad (f (j : Int)))))))
def am_tys (dA : Nat → ClassId) : List (ClassId × FieldType) := [(dA 0, .int), (dA 1, .long), (dA 2, .object RX3), (dA 3, .array .int)]
def am_W (dA : Nat → ClassId) (b : Nat) (ad : Nat → Nat) (n : Nat) (μ : am_M) : va_W := (List.range n).map (fun (i : Nat) => (ad i, am_cell dA b ad (am_kind (i : Int)) (μ (i : Int))))
def am_ok (n : Nat) (v : am_V) : Prop := match v.1 with
  | 0 => -2147483648 ≤ v.2 ∧ v.2 < 2147483648
  | 1 => -9223372036854775808 ≤ v.2 ∧ v.2 < 9223372036854775808
  | 2 => v.2 < (n : Int)
  | _ => True
def am_oks (n : Nat) (l : List am_V) : Prop := ∀ v ∈ l, am_ok n v
def am_G (n : Nat) (μ : am_M) : Prop := ∀ i : Nat, i < n → ∀ j : Int, am_ok n (am_tag (am_kind (i : Int)) j.toNat, μ (i : Int) j)
def am_sl : Nat → Nat
  | 0 => 0
  | n + 1 => am_sl n + am_len (am_kind (n : Int))
theorem am_sl_mono {a b : Nat} (h : a ≤ b) : am_sl a ≤ am_sl b := by
  induction h with
  | refl => exact Nat.le_refl _
  | step _ ih => exact Nat.le_trans ih (Nat.le_add_right _ _)
theorem am_ok_mono {n n' : Nat} (h : n ≤ n') {v : am_V} (hv : am_ok n v) : am_ok n' v := by
  unfold am_ok at *
  split <;> simp_all
  omega
theorem am_oks_mono {n n' : Nat} (h : n ≤ n') {l : List am_V} (hv : am_oks n l) : am_oks n' l := fun v hm => am_ok_mono h (hv v hm)
theorem am_rf_congr {n : Nat} {ad ad' : Nat → Nat} (ha : ∀ i, i < n → ad' i = ad i) {x : Int} (hx : x < (n : Int)) : am_rf ad' x = am_rf ad x := by
  unfold am_rf
  split
  · rfl
  · rw [ha _ (by omega)]
theorem am_cv_congr {b n : Nat} {ad ad' : Nat → Nat} (ha : ∀ i, i < n → ad' i = ad i) {v : am_V} (hv : am_ok n v) : am_cv b ad' v = am_cv b ad v := by
  obtain ⟨t, x⟩ := v
  unfold am_cv
  match t, hv with
  | 0, _ => rfl
  | 1, _ => rfl
  | 2, hv => exact congrArg va_rf (am_rf_congr ha hv)
  | 3, _ => rfl
  | _ + 4, _ => rfl
theorem am_cvs_congr {b n : Nat} {ad ad' : Nat → Nat} (ha : ∀ i, i < n → ad' i = ad i) {l : List am_V} (hv : am_oks n l) : l.map (am_cv b ad') = l.map (am_cv b ad) := List.map_congr_left (fun v hm => am_cv_congr ha (hv v hm))
theorem am_cell_congr {dA : Nat → ClassId} {b n : Nat} {ad ad' : Nat → Nat} (ha : ∀ i, i < n → ad' i = ad i) {k : Nat × Nat} {f : Int → Int} (hf : ∀ j : Int, am_ok n (am_tag k j.toNat, f j)) : am_cell dA b ad' k f = am_cell dA b ad k f := by
  obtain ⟨k1, k2⟩ := k
  unfold am_cell
  match k1, hf with
  | 0, hf =>
    show Sum.inr _ = Sum.inr _
    congr 2
    exact List.map_congr_left (fun j _ => am_cv_congr ha (hf (j : Int)))
  | 1, _ => rfl
  | 2, _ => rfl
  | 3, hf =>
    show Sum.inl _ = Sum.inl _
    have h : (fun j : Nat => am_rf ad' (f (j : Int))) = fun j : Nat => am_rf ad (f (j : Int)) := funext fun j => am_rf_congr ha (hf (j : Int))
    simp only [h]
  | _ + 4, hf =>
    show Sum.inl _ = Sum.inl _
    have h : (fun j : Nat => am_rf ad' (f (j : Int))) = fun j : Nat => am_rf ad (f (j : Int)) := funext fun j => am_rf_congr ha (hf (j : Int))
    simp only [h]
section
variable {dA : Nat → ClassId} {b n : Nat} {ad ad' : Nat → Nat} {μ μ' : am_M}
theorem am_W_len : (am_W dA b ad n μ).length = n := by simp [am_W]
theorem am_W_get {i : Nat} (hi : i < n) : (am_W dA b ad n μ)[i]? = some (ad i, am_cell dA b ad (am_kind (i : Int)) (μ (i : Int))) := by
  simp [am_W, hi]
theorem am_W_none {i : Nat} (hi : n ≤ i) : (am_W dA b ad n μ)[i]? = none := by
  rw [List.getElem?_eq_none_iff, am_W_len]; exact hi
theorem am_W_upd {i : Nat} (hi : i < n) {c : va_E} (h : ∀ a : Int, a ≠ (i : Int) → μ' a = μ a) (hc : am_cell dA b ad (am_kind (i : Int)) (μ' (i : Int)) = c) : (am_W dA b ad n μ).set i (ad i, c) = am_W dA b ad n μ' := by
  apply List.ext_getElem?
  intro k
  by_cases hk : k < n
  · rw [am_W_get hk, List.getElem?_set]
    by_cases e : i = k
    · subst e
      rw [if_pos rfl, if_pos (by rw [am_W_len]; exact hi), hc]
    · rw [if_neg e, am_W_get hk, h (k : Int) (by omega)]
  · rw [am_W_none (by omega), List.getElem?_eq_none_iff, List.length_set, am_W_len]
    omega
theorem am_W_push (hG : am_G n μ) (ha : ∀ i, i < n → ad' i = ad i) (hm : ∀ a : Int, a < (n : Int) → μ' a = μ a) {q : Nat} {c : va_E} (hq : ad' n = q) (hc : am_cell dA b ad' (am_kind (n : Int)) (μ' (n : Int)) = c) : am_W dA b ad n μ ++ [(q, c)] = am_W dA b ad' (n + 1) μ' := by
  unfold am_W
  rw [List.range_succ, List.map_append]
  congr 1
  · apply List.map_congr_left
    intro i hi
    have hi := List.mem_range.mp hi
    rw [ha i hi, hm (i : Int) (by omega), am_cell_congr ha (hG i hi)]
  · simp [hq, hc]
end
theorem am_cat_cv {b : Nat} {ad : Nat → Nat} (v : am_V) : (am_cv b ad v).category = am_cat v := by
  obtain ⟨t, x⟩ := v
  unfold am_cv am_cat
  match t with
  | 0 => rfl
  | 1 => rfl
  | 2 =>
    show (va_rf (am_rf ad x)).category = 1
    cases am_rf ad x <;> rfl
  | 3 => rfl
  | _ + 4 => simp; rfl
theorem am_cats_cv {b : Nat} {ad : Nat → Nat} (l : List am_V) : ((l.map (am_cv b ad)).map (fun v => v.category)).sum = am_cats l := by
  unfold am_cats
  rw [List.map_map]
  congr 1
  exact List.map_congr_left (fun v _ => am_cat_cv v)
/-- the locals -/
def am_L (b : Nat) (ad : Nat → Nat) (L : List am_V) (cls : Array Slot) (nL : Nat) : Prop := cls.size = nL ∧ lv_wf cls ∧ L.length = nL ∧ ∀ (i : Nat) (v : am_V), L[i]? = some v → v.1 ≤ 3 → cls[i]? = some (.val (am_cv b ad v))
def am_lv (b : Nat) (ad : Nat → Nat) (L : List am_V) : List (Nat × Value) := (List.range L.length).filterMap (fun i => match L[i]? with
  | some v => if v.1 ≤ 3 then some (i, am_cv b ad v) else none
  | none => none)
theorem am_lv_mem {b : Nat} {ad : Nat → Nat} {L : List am_V} {i : Nat} {v : am_V} (h : L[i]? = some v) (hv : v.1 ≤ 3) : (i, am_cv b ad v) ∈ am_lv b ad L := by
  unfold am_lv
  refine List.mem_filterMap.mpr ⟨i, List.mem_range.mpr (List.getElem?_eq_some_iff.mp h).1, ?_⟩
  rw [h]
  simp [hv]
theorem am_lv_of {b : Nat} {ad : Nat → Nat} {L : List am_V} {q : Nat × Value} (h : q ∈ am_lv b ad L) : ∃ v, L[q.1]? = some v ∧ v.1 ≤ 3 ∧ q.2 = am_cv b ad v := by
  unfold am_lv at h
  obtain ⟨i, -, hi⟩ := List.mem_filterMap.mp h
  split at hi
  · rename_i v hv
    split at hi
    · rename_i hle
      cases hi
      exact ⟨v, hv, hle, rfl⟩
    · cases hi
  · cases hi
theorem am_L_has {b : Nat} {ad : Nat → Nat} {L : List am_V} {cls : Array Slot} {nL : Nat} (h : am_L b ad L cls nL) : lv_has cls nL (am_lv b ad L) := ⟨h.1, h.2.1, fun q hq => by
  obtain ⟨v, h1, h2, h3⟩ := am_lv_of hq
  rw [h3]
  exact h.2.2.2 q.1 v h1 h2⟩
theorem am_L_congr {b n nL : Nat} {ad ad' : Nat → Nat} (ha : ∀ i, i < n → ad' i = ad i) {L : List am_V} {cls : Array Slot} (hv : am_oks n L) (h : am_L b ad L cls nL) : am_L b ad' L cls nL := ⟨h.1, h.2.1, h.2.2.1, fun i v h1 h2 => by
  rw [am_cv_congr ha (hv v (List.mem_of_getElem? h1))]
  exact h.2.2.2 i v h1 h2⟩
theorem am_kill_len (L : List am_V) (i : Nat) : (am_kill L i).length = L.length := by
  unfold am_kill
  split
  · rfl
  · split <;> simp
theorem am_kill_get {L : List am_V} {i j : Nat} {v : am_V} (h : (am_kill L i)[j]? = some v) : v = (9, 0) ∨ (L[j]? = some v ∧ ¬ (j + 1 = i ∧ v.1 = 1)) := by
  unfold am_kill at h
  split at h
  · exact Or.inr ⟨h, by omega⟩
  · rename_i i
    split at h
    · rename_i x hx
      rw [List.getElem?_set] at h
      split at h
      · split at h
        · cases h; exact Or.inl rfl
        · cases h
      · exact Or.inr ⟨h, by omega⟩
    · rename_i hx
      refine Or.inr ⟨h, fun hh => ?_⟩
      obtain ⟨e1, e2⟩ := hh
      have : j = i := by omega
      subst this
      obtain ⟨t, x⟩ := v
      cases e2
      exact hx x h
theorem am_sto_L {b nL : Nat} {ad : Nat → Nat} {L : List am_V} {cls' : Array Slot} {i : Nat} {v : am_V} (hi : i < nL) (hl : L.length = nL) (hv : v.1 ≠ 1) (h : lv_has cls' nL ((i, am_cv b ad v) :: (am_lv b ad L).filter (fun q => !(q.1 == i) && !(q.1 + 1 == i && q.2.category == 2)))) : am_L b ad (am_sto L i v) cls' nL := by
  refine ⟨h.1, h.2.1, by simp [am_sto, am_kill_len, hl], fun j w h1 h2 => ?_⟩
  unfold am_sto at h1
  rw [List.getElem?_set] at h1
  split at h1
  · rename_i e
    subst e
    rw [if_pos (by rw [am_kill_len, hl]; exact hi)] at h1
    cases h1
    exact h.2.2 _ List.mem_cons_self
  · rename_i e
    rcases am_kill_get h1 with h3 | ⟨h3, h4⟩
    · rw [h3] at h2; exact absurd h2 (by decide)
    · refine h.2.2 (j, am_cv b ad w) (List.mem_cons_of_mem _ (List.mem_filter.mpr ⟨am_lv_mem h3 h2, ?_⟩))
      simp only [am_cat_cv]
      unfold am_cat
      by_cases e1 : w.1 = 1
      · have : ¬ j + 1 = i := fun q => h4 ⟨q, e1⟩
        simp [e1, this, Ne.symm e]
      · simp [e1, Ne.symm e]
theorem am_sto2_L {b nL : Nat} {ad : Nat → Nat} {L : List am_V} {cls' : Array Slot} {i : Nat} {v : am_V} (hi : i + 1 < nL) (hl : L.length = nL) (h : lv_has cls' nL ((i, am_cv b ad v) :: (am_lv b ad L).filter (fun q => !(q.1 == i) && (!(q.1 == i + 1) && !(q.1 + 1 == i && q.2.category == 2))))) : am_L b ad (am_sto2 L i v) cls' nL := by
  refine ⟨h.1, h.2.1, by simp [am_sto2, am_kill_len, hl], fun j w h1 h2 => ?_⟩
  unfold am_sto2 at h1
  rw [List.getElem?_set] at h1
  split at h1
  · split at h1
    · cases h1
      exact absurd h2 (by decide)
    · cases h1
  · rename_i e9
    rw [List.getElem?_set] at h1
    split at h1
    · rename_i e
      subst e
      rw [if_pos (by rw [am_kill_len, hl]; omega)] at h1
      cases h1
      exact h.2.2 _ List.mem_cons_self
    · rename_i e
      rcases am_kill_get h1 with h3 | ⟨h3, h4⟩
      · rw [h3] at h2; exact absurd h2 (by decide)
      · refine h.2.2 (j, am_cv b ad w) (List.mem_cons_of_mem _ (List.mem_filter.mpr ⟨am_lv_mem h3 h2, ?_⟩))
        simp only [am_cat_cv]
        unfold am_cat
        by_cases e1 : w.1 = 1
        · have : ¬ j + 1 = i := fun q => h4 ⟨q, e1⟩
          simp [e1, this, Ne.symm e, Ne.symm e9]
        · simp [e1, Ne.symm e, Ne.symm e9]
theorem am_oks_kill {n : Nat} {L : List am_V} (h : am_oks n L) (i : Nat) : am_oks n (am_kill L i) := by
  intro v hv
  obtain ⟨j, hj⟩ := List.getElem?_of_mem hv
  rcases am_kill_get hj with h1 | ⟨h1, -⟩
  · rw [h1]; trivial
  · exact h v (List.mem_of_getElem? h1)
theorem am_oks_set {n : Nat} {L : List am_V} (h : am_oks n L) (i : Nat) {v : am_V} (hv : am_ok n v) : am_oks n (L.set i v) := by
  intro w hw
  rcases List.mem_or_eq_of_mem_set hw with h1 | h1
  · exact h w h1
  · rw [h1]; exact hv
theorem am_oks_sto {n : Nat} {L : List am_V} (h : am_oks n L) (i : Nat) {v : am_V} (hv : am_ok n v) : am_oks n (am_sto L i v) := am_oks_set (am_oks_kill h i) i hv
theorem am_oks_sto2 {n : Nat} {L : List am_V} (h : am_oks n L) (i : Nat) {v : am_V} (hv : am_ok n v) : am_oks n (am_sto2 L i v) := am_oks_set (am_oks_set (am_oks_kill h i) i hv) (i + 1) trivial
theorem am_oks_cons {n : Nat} {l : List am_V} {v : am_V} (hv : am_ok n v) (h : am_oks n l) : am_oks n (v :: l) := fun w hw => (List.mem_cons.mp hw).elim (fun e => e ▸ hv) (h w)
theorem am_oks_tail {n : Nat} {l : List am_V} {v : am_V} (h : am_oks n (v :: l)) : am_oks n l := fun w hw => h w (List.mem_cons_of_mem _ hw)
theorem am_oks_head {n : Nat} {l : List am_V} {v : am_V} (h : am_oks n (v :: l)) : am_ok n v := h v List.mem_cons_self
theorem am_G_set {n : Nat} {μ : am_M} (hG : am_G n μ) {a : Nat} {j x : Int} (hx : am_ok n (am_tag (am_kind (a : Int)) j.toNat, x)) : am_G n (am_set μ (a : Int) j x) := by
  intro i hi j'
  unfold am_set
  split
  · rename_i e
    obtain ⟨e1, e2⟩ := e
    rw [e1, e2]
    exact hx
  · exact hG i hi j'
theorem am_G_new {n : Nat} {μ : am_M} (hG : am_G n μ) {f : Int → Int} (hf : ∀ j : Int, am_ok (n + 1) (am_tag (am_kind (n : Int)) j.toNat, f j)) : am_G (n + 1) (am_new μ (n : Int) f) := by
  intro i hi j
  unfold am_new
  split
  · rename_i e
    rw [e]
    exact hf j
  · exact am_ok_mono (Nat.le_succ n) (hG i (by omega) j)
/-! numbers -/
theorem am_w32_ok (n : Nat) (x : Int) : am_ok n (0, am_w32 x) := by
  show _ ∧ _
  have h1 := Int.le_bmod (x := x) (m := 4294967296) (by decide)
  have h2 := Int.bmod_lt (x := x) (m := 4294967296) (by decide)
  unfold am_w32
  dsimp only
  omega
theorem am_w64_ok (n : Nat) (x : Int) : am_ok n (1, am_w64 x) := by
  show _ ∧ _
  have h1 := Int.le_bmod (x := x) (m := 18446744073709551616) (by decide)
  have h2 := Int.bmod_lt (x := x) (m := 18446744073709551616) (by decide)
  unfold am_w64
  dsimp only
  omega
theorem am_i32_ok (n : Nat) (x : Int32) : am_ok n (0, x.toInt) := ⟨x.minValue_le_toInt, by have := x.toInt_lt; exact this⟩
theorem am_32 {x : Int} (h : -2147483648 ≤ x ∧ x < 2147483648) : (Int32.ofInt x).toInt = x := Int32.toInt_ofInt_of_le h.1 h.2
theorem am_64 {x : Int} (h : -9223372036854775808 ≤ x ∧ x < 9223372036854775808) : (Int64.ofInt x).toInt = x := Int64.toInt_ofInt_of_le h.1 h.2
theorem am_w32_of (x : Int) : Int32.ofInt (am_w32 x) = Int32.ofInt x := by
  apply Int32.toInt_inj.mp
  rw [Int32.toInt_ofInt, Int32.toInt_ofInt]
  unfold am_w32
  exact Int.bmod_bmod
theorem am_w64_of (x : Int) : Int64.ofInt (am_w64 x) = Int64.ofInt x := by
  apply Int64.toInt_inj.mp
  rw [Int64.toInt_ofInt, Int64.toInt_ofInt]
  unfold am_w64
  exact Int.bmod_bmod
theorem am_w32_id {x : Int} (h : -2147483648 ≤ x ∧ x < 2147483648) : am_w32 x = x := by
  unfold am_w32
  rw [Int.bmod_eq_of_le] <;> omega
theorem am_w64_id {x : Int} (h : -9223372036854775808 ≤ x ∧ x < 9223372036854775808) : am_w64 x = x := by
  unfold am_w64
  rw [Int.bmod_eq_of_le] <;> omega
theorem am_lt32 {x y : Int} (hx : -2147483648 ≤ x ∧ x < 2147483648) (hy : -2147483648 ≤ y ∧ y < 2147483648) : Int32.ofInt x < Int32.ofInt y ↔ x < y := by
  rw [Int32.lt_iff_toInt_lt, am_32 hx, am_32 hy]
theorem am_le32 {x y : Int} (hx : -2147483648 ≤ x ∧ x < 2147483648) (hy : -2147483648 ≤ y ∧ y < 2147483648) : Int32.ofInt x ≤ Int32.ofInt y ↔ x ≤ y := by
  rw [Int32.le_iff_toInt_le, am_32 hx, am_32 hy]
theorem am_eq32 {x y : Int} (hx : -2147483648 ≤ x ∧ x < 2147483648) (hy : -2147483648 ≤ y ∧ y < 2147483648) : Int32.ofInt x = Int32.ofInt y ↔ x = y := by
  rw [← Int32.toInt_inj, am_32 hx, am_32 hy]
theorem am_lt64 {x y : Int} (hx : -9223372036854775808 ≤ x ∧ x < 9223372036854775808) (hy : -9223372036854775808 ≤ y ∧ y < 9223372036854775808) : Int64.ofInt x < Int64.ofInt y ↔ x < y := by
  rw [Int64.lt_iff_toInt_lt, am_64 hx, am_64 hy]
theorem am_eq64 {x y : Int} (hx : -9223372036854775808 ≤ x ∧ x < 9223372036854775808) (hy : -9223372036854775808 ≤ y ∧ y < 9223372036854775808) : Int64.ofInt x = Int64.ofInt y ↔ x = y := by
  rw [← Int64.toInt_inj, am_64 hx, am_64 hy]
theorem am_clamp {x : Int} (h0 : 0 ≤ x) (h1 : x < 2147483648) : (Int32.ofInt x).toNatClampNeg = x.toNat := by
  unfold Int32.toNatClampNeg
  rw [am_32 ⟨by omega, h1⟩]
theorem am_in {x : Int} {n : Nat} (h0 : 0 ≤ x) (h1 : x < 2147483648) (h : x < (n : Int)) : vp_in (Int32.ofInt x) n := by
  rw [vp_in_iff, am_32 ⟨by omega, h1⟩]
  exact ⟨h0, h⟩
theorem am_b8 {x : Int} (h : -128 ≤ x ∧ x ≤ 127) : (Int8.ofInt x).toInt32 = Int32.ofInt x := by
  apply Int32.toInt_inj.mp
  rw [Int8.toInt_toInt32, Int8.toInt_ofInt_of_le (by omega) (by omega), am_32 (by omega)]
theorem am_b16 {x : Int} (h : -32768 ≤ x ∧ x ≤ 32767) : (Int16.ofInt x).toInt32 = Int32.ofInt x := by
  apply Int32.toInt_inj.mp
  rw [Int16.toInt_toInt32, Int16.toInt_ofInt_of_le (by omega) (by omega), am_32 (by omega)]
theorem am_i2l {x : Int} (h : -2147483648 ≤ x ∧ x < 2147483648) : (Int32.ofInt x).toInt64 = Int64.ofInt x := by
  apply Int64.toInt_inj.mp
  rw [Int32.toInt_toInt64, am_32 h, am_64 (by omega)]
theorem am_l2i {x : Int} (h : -9223372036854775808 ≤ x ∧ x < 9223372036854775808) : (Int64.ofInt x).toInt32 = Int32.ofInt (am_w32 x) := by
  apply Int32.toInt_inj.mp
  rw [Int64.toInt_toInt32, am_64 h, am_w32_of, Int32.toInt_ofInt]

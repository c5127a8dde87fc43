section
variable {p : Program} {l : Launch} {e : Env} {R : Room} {s : State} {m : MethodId} {args : Array Value} {below : List Frame} {meth : Method} {c : Code} {Q : State → Prop} {D : va_G} {dA : Nat → ClassId} {b : Nat} {A : Nat → Prop} {k n0 : Nat} {ad : Nat → Nat} {n pc : Nat} {L st : List am_V} {μ : am_M} {cls : Array Slot} {H : Heap} {locs : List Loc} {sc : am_Sc} {pc' : Nat} {L' st' : List am_V} {n' : Nat} {μ' : am_M}
theorem am_o_iadd {x y : Int} (hF : am_F p R s m args meth c k) (hH : am_H D dA b A s ad n μ H locs) (hL : am_L b ad L cls (am_ml k)) (hLo : am_oks n L)  (hso : am_oks n ((0, y) :: (0, x) :: st)) (hd : decode (am_by k) pc = .ok (.iadd, 1)) (kk : am_Kk p l e R s m args below meth c Q D dA b A k n0 ad n (pc + 1) (L) ((0, am_w32 (x + y)) :: st) (n) (μ)) : W p l e R s m args below meth c H locs (n - n0) (am_sl n - am_sl n0) Q (F0 m pc cls (((0, y) :: (0, x) :: st).map (am_cv b ad))) := by
  have hx := am_oks_head (am_oks_tail hso)
  have hy := am_oks_head hso
  have h1 := am_kk0 kk hH hL hLo (am_oks_cons (am_w32_ok n _) (am_oks_tail (am_oks_tail hso)))
  rw [List.map_cons, am_cv0, am_w32_of, Int32.ofInt_add] at h1
  exact lv_iadd hF.1 hF.2.1 hd (h1)
theorem am_o_isub {x y : Int} (hF : am_F p R s m args meth c k) (hH : am_H D dA b A s ad n μ H locs) (hL : am_L b ad L cls (am_ml k)) (hLo : am_oks n L)  (hso : am_oks n ((0, y) :: (0, x) :: st)) (hd : decode (am_by k) pc = .ok (.isub, 1)) (kk : am_Kk p l e R s m args below meth c Q D dA b A k n0 ad n (pc + 1) (L) ((0, am_w32 (x - y)) :: st) (n) (μ)) : W p l e R s m args below meth c H locs (n - n0) (am_sl n - am_sl n0) Q (F0 m pc cls (((0, y) :: (0, x) :: st).map (am_cv b ad))) := by
  have hx := am_oks_head (am_oks_tail hso)
  have hy := am_oks_head hso
  have h1 := am_kk0 kk hH hL hLo (am_oks_cons (am_w32_ok n _) (am_oks_tail (am_oks_tail hso)))
  rw [List.map_cons, am_cv0, am_w32_of, Int32.ofInt_sub] at h1
  exact lv_isub hF.1 hF.2.1 hd (h1)
theorem am_o_imul {x y : Int} (hF : am_F p R s m args meth c k) (hH : am_H D dA b A s ad n μ H locs) (hL : am_L b ad L cls (am_ml k)) (hLo : am_oks n L)  (hso : am_oks n ((0, y) :: (0, x) :: st)) (hd : decode (am_by k) pc = .ok (.imul, 1)) (kk : am_Kk p l e R s m args below meth c Q D dA b A k n0 ad n (pc + 1) (L) ((0, am_w32 (x * y)) :: st) (n) (μ)) : W p l e R s m args below meth c H locs (n - n0) (am_sl n - am_sl n0) Q (F0 m pc cls (((0, y) :: (0, x) :: st).map (am_cv b ad))) := by
  have hx := am_oks_head (am_oks_tail hso)
  have hy := am_oks_head hso
  have h1 := am_kk0 kk hH hL hLo (am_oks_cons (am_w32_ok n _) (am_oks_tail (am_oks_tail hso)))
  rw [List.map_cons, am_cv0, am_w32_of, Int32.ofInt_mul] at h1
  exact lv_imul hF.1 hF.2.1 hd (h1)
theorem am_o_iand {x y : Int} (hF : am_F p R s m args meth c k) (hH : am_H D dA b A s ad n μ H locs) (hL : am_L b ad L cls (am_ml k)) (hLo : am_oks n L)  (hso : am_oks n ((0, y) :: (0, x) :: st)) (hd : decode (am_by k) pc = .ok (.iand, 1)) (kk : am_Kk p l e R s m args below meth c Q D dA b A k n0 ad n (pc + 1) (L) ((0, (Int32.ofInt x &&& Int32.ofInt y).toInt) :: st) (n) (μ)) : W p l e R s m args below meth c H locs (n - n0) (am_sl n - am_sl n0) Q (F0 m pc cls (((0, y) :: (0, x) :: st).map (am_cv b ad))) := by
  have hx := am_oks_head (am_oks_tail hso)
  have hy := am_oks_head hso
  have h1 := am_kk0 kk hH hL hLo (am_oks_cons (am_i32_ok n _) (am_oks_tail (am_oks_tail hso)))
  rw [List.map_cons, am_cv0, Int32.ofInt_toInt] at h1
  exact lv_iand hF.1 hF.2.1 hd (h1)
theorem am_o_ior {x y : Int} (hF : am_F p R s m args meth c k) (hH : am_H D dA b A s ad n μ H locs) (hL : am_L b ad L cls (am_ml k)) (hLo : am_oks n L)  (hso : am_oks n ((0, y) :: (0, x) :: st)) (hd : decode (am_by k) pc = .ok (.ior, 1)) (kk : am_Kk p l e R s m args below meth c Q D dA b A k n0 ad n (pc + 1) (L) ((0, (Int32.ofInt x ||| Int32.ofInt y).toInt) :: st) (n) (μ)) : W p l e R s m args below meth c H locs (n - n0) (am_sl n - am_sl n0) Q (F0 m pc cls (((0, y) :: (0, x) :: st).map (am_cv b ad))) := by
  have hx := am_oks_head (am_oks_tail hso)
  have hy := am_oks_head hso
  have h1 := am_kk0 kk hH hL hLo (am_oks_cons (am_i32_ok n _) (am_oks_tail (am_oks_tail hso)))
  rw [List.map_cons, am_cv0, Int32.ofInt_toInt] at h1
  exact lv_ior hF.1 hF.2.1 hd (h1)
theorem am_o_ishl {x y : Int} (hF : am_F p R s m args meth c k) (hH : am_H D dA b A s ad n μ H locs) (hL : am_L b ad L cls (am_ml k)) (hLo : am_oks n L)  (hso : am_oks n ((0, y) :: (0, x) :: st)) (hd : decode (am_by k) pc = .ok (.ishl, 1)) (kk : am_Kk p l e R s m args below meth c Q D dA b A k n0 ad n (pc + 1) (L) ((0, (Int32.ofInt x <<< (Int32.ofInt y &&& 31)).toInt) :: st) (n) (μ)) : W p l e R s m args below meth c H locs (n - n0) (am_sl n - am_sl n0) Q (F0 m pc cls (((0, y) :: (0, x) :: st).map (am_cv b ad))) := by
  have hx := am_oks_head (am_oks_tail hso)
  have hy := am_oks_head hso
  have h1 := am_kk0 kk hH hL hLo (am_oks_cons (am_i32_ok n _) (am_oks_tail (am_oks_tail hso)))
  rw [List.map_cons, am_cv0, Int32.ofInt_toInt] at h1
  exact lv_ishl hF.1 hF.2.1 hd (h1)
theorem am_o_ishr {x y : Int} (hF : am_F p R s m args meth c k) (hH : am_H D dA b A s ad n μ H locs) (hL : am_L b ad L cls (am_ml k)) (hLo : am_oks n L)  (hso : am_oks n ((0, y) :: (0, x) :: st)) (hd : decode (am_by k) pc = .ok (.ishr, 1)) (kk : am_Kk p l e R s m args below meth c Q D dA b A k n0 ad n (pc + 1) (L) ((0, (Int32.ofInt x >>> (Int32.ofInt y &&& 31)).toInt) :: st) (n) (μ)) : W p l e R s m args below meth c H locs (n - n0) (am_sl n - am_sl n0) Q (F0 m pc cls (((0, y) :: (0, x) :: st).map (am_cv b ad))) := by
  have hx := am_oks_head (am_oks_tail hso)
  have hy := am_oks_head hso
  have h1 := am_kk0 kk hH hL hLo (am_oks_cons (am_i32_ok n _) (am_oks_tail (am_oks_tail hso)))
  rw [List.map_cons, am_cv0, Int32.ofInt_toInt] at h1
  exact lv_ishr hF.1 hF.2.1 hd (h1)
theorem am_o_ladd {x y : Int} (hF : am_F p R s m args meth c k) (hH : am_H D dA b A s ad n μ H locs) (hL : am_L b ad L cls (am_ml k)) (hLo : am_oks n L)  (hso : am_oks n ((1, y) :: (1, x) :: st)) (hd : decode (am_by k) pc = .ok (.ladd, 1)) (kk : am_Kk p l e R s m args below meth c Q D dA b A k n0 ad n (pc + 1) (L) ((1, am_w64 (x + y)) :: st) (n) (μ)) : W p l e R s m args below meth c H locs (n - n0) (am_sl n - am_sl n0) Q (F0 m pc cls (((1, y) :: (1, x) :: st).map (am_cv b ad))) := by
  have hx := am_oks_head (am_oks_tail hso)
  have hy := am_oks_head hso
  have h1 := am_kk0 kk hH hL hLo (am_oks_cons (am_w64_ok n _) (am_oks_tail (am_oks_tail hso)))
  rw [List.map_cons, am_cv1, am_w64_of, Int64.ofInt_add] at h1
  exact lv_ladd hF.1 hF.2.1 hd (h1)
theorem am_o_lmul {x y : Int} (hF : am_F p R s m args meth c k) (hH : am_H D dA b A s ad n μ H locs) (hL : am_L b ad L cls (am_ml k)) (hLo : am_oks n L)  (hso : am_oks n ((1, y) :: (1, x) :: st)) (hd : decode (am_by k) pc = .ok (.lmul, 1)) (kk : am_Kk p l e R s m args below meth c Q D dA b A k n0 ad n (pc + 1) (L) ((1, am_w64 (x * y)) :: st) (n) (μ)) : W p l e R s m args below meth c H locs (n - n0) (am_sl n - am_sl n0) Q (F0 m pc cls (((1, y) :: (1, x) :: st).map (am_cv b ad))) := by
  have hx := am_oks_head (am_oks_tail hso)
  have hy := am_oks_head hso
  have h1 := am_kk0 kk hH hL hLo (am_oks_cons (am_w64_ok n _) (am_oks_tail (am_oks_tail hso)))
  rw [List.map_cons, am_cv1, am_w64_of, Int64.ofInt_mul] at h1
  exact lv_lmul hF.1 hF.2.1 hd (h1)
theorem am_cmp_ok (n : Nat) (x y : Int) : am_ok n (0, am_cmp x y) := by
  show _ ∧ _
  unfold am_cmp
  split
  · decide
  · split <;> decide
theorem am_cmp_of {x y : Int} (hx : am_ok n (1, x)) (hy : am_ok n (1, y)) : Int32.ofInt (am_cmp x y) = lg_cmp (Int64.ofInt x) (Int64.ofInt y) := by
  unfold am_cmp lg_cmp
  simp only [gt_iff_lt, am_lt64 hy hx, am_eq64 hx hy, am_lt64 hx hy]
  by_cases h1 : y < x
  · simp [h1]
  · by_cases h2 : x = y
    · simp [h2]
    · simp [h1, h2]
theorem am_o_lcmp {x y : Int} (hF : am_F p R s m args meth c k) (hH : am_H D dA b A s ad n μ H locs) (hL : am_L b ad L cls (am_ml k)) (hLo : am_oks n L)  (hso : am_oks n ((1, y) :: (1, x) :: st)) (hd : decode (am_by k) pc = .ok (.lcmp, 1)) (kk : am_Kk p l e R s m args below meth c Q D dA b A k n0 ad n (pc + 1) (L) ((0, am_cmp x y) :: st) (n) (μ)) : W p l e R s m args below meth c H locs (n - n0) (am_sl n - am_sl n0) Q (F0 m pc cls (((1, y) :: (1, x) :: st).map (am_cv b ad))) := by
  have hx := am_oks_head (am_oks_tail hso)
  have hy := am_oks_head hso
  have h1 := am_kk0 kk hH hL hLo (am_oks_cons (am_cmp_ok n x y) (am_oks_tail (am_oks_tail hso)))
  rw [List.map_cons, am_cv0, am_cmp_of hx hy] at h1
  exact W.lcmp hF.1 hF.2.1 hd h1
theorem am_o_ineg {x : Int} (hF : am_F p R s m args meth c k) (hH : am_H D dA b A s ad n μ H locs) (hL : am_L b ad L cls (am_ml k)) (hLo : am_oks n L)  (hso : am_oks n ((0, x) :: st)) (hd : decode (am_by k) pc = .ok (.ineg, 1)) (kk : am_Kk p l e R s m args below meth c Q D dA b A k n0 ad n (pc + 1) (L) ((0, am_w32 (-x)) :: st) (n) (μ)) : W p l e R s m args below meth c H locs (n - n0) (am_sl n - am_sl n0) Q (F0 m pc cls (((0, x) :: st).map (am_cv b ad))) := by
  have h1 := am_kk0 kk hH hL hLo (am_oks_cons (am_w32_ok n _) (am_oks_tail hso))
  rw [List.map_cons, am_cv0, am_w32_of, Int32.ofInt_neg] at h1
  exact lv_ineg hF.1 hF.2.1 hd h1
theorem am_o_i2l {x : Int} (hF : am_F p R s m args meth c k) (hH : am_H D dA b A s ad n μ H locs) (hL : am_L b ad L cls (am_ml k)) (hLo : am_oks n L)  (hso : am_oks n ((0, x) :: st)) (hd : decode (am_by k) pc = .ok (.i2l, 1)) (kk : am_Kk p l e R s m args below meth c Q D dA b A k n0 ad n (pc + 1) (L) ((1, x) :: st) (n) (μ)) : W p l e R s m args below meth c H locs (n - n0) (am_sl n - am_sl n0) Q (F0 m pc cls (((0, x) :: st).map (am_cv b ad))) := by
  have hx : -2147483648 ≤ x ∧ x < 2147483648 := am_oks_head hso
  exact lv_i2l hF.1 hF.2.1 hd (am_i2l hx) (am_kk0 kk hH hL hLo (am_oks_cons ⟨by show _ ≤ x; omega, by show x < _; omega⟩ (am_oks_tail hso)))
theorem am_o_l2i {x : Int} (hF : am_F p R s m args meth c k) (hH : am_H D dA b A s ad n μ H locs) (hL : am_L b ad L cls (am_ml k)) (hLo : am_oks n L)  (hso : am_oks n ((1, x) :: st)) (hd : decode (am_by k) pc = .ok (.l2i, 1)) (kk : am_Kk p l e R s m args below meth c Q D dA b A k n0 ad n (pc + 1) (L) ((0, am_w32 x) :: st) (n) (μ)) : W p l e R s m args below meth c H locs (n - n0) (am_sl n - am_sl n0) Q (F0 m pc cls (((1, x) :: st).map (am_cv b ad))) := by
  exact lv_l2i hF.1 hF.2.1 hd (am_l2i (am_oks_head hso)) (am_kk0 kk hH hL hLo (am_oks_cons (am_w32_ok n x) (am_oks_tail hso)))
theorem am_o_icmp_eq {x y off : Int} {tgt : Nat} (hF : am_F p R s m args meth c k) (hH : am_H D dA b A s ad n μ H locs) (hL : am_L b ad L cls (am_ml k)) (hLo : am_oks n L)  (hso : am_oks n ((0, y) :: (0, x) :: st)) (hd : decode (am_by k) pc = .ok (.if_icmp .eq off, 3)) (ht : (pc : Int) + off = (tgt : Int)) (kt : x = y → am_Kk p l e R s m args below meth c Q D dA b A k n0 ad n tgt L st n μ) (kf : ¬ x = y → am_Kk p l e R s m args below meth c Q D dA b A k n0 ad n (pc + 3) L st n μ) : W p l e R s m args below meth c H locs (n - n0) (am_sl n - am_sl n0) Q (F0 m pc cls (((0, y) :: (0, x) :: st).map (am_cv b ad))) := by
  have hx : -2147483648 ≤ x ∧ x < 2147483648 := am_oks_head (am_oks_tail hso)
  have hy : -2147483648 ≤ y ∧ y < 2147483648 := am_oks_head hso
  have hr := am_oks_tail (am_oks_tail hso)
  have h9 := am_eq32 hx hy
  exact lv_icmp_eq hF.1 hF.2.1 hd ht (fun q => am_kk0 (kt (h9.mp q)) hH hL hLo hr) (fun q => am_kk0 (kf (fun z => q (h9.mpr z))) hH hL hLo hr)
theorem am_o_if_eq {x y off : Int} {tgt : Nat} (hF : am_F p R s m args meth c k) (hH : am_H D dA b A s ad n μ H locs) (hL : am_L b ad L cls (am_ml k)) (hLo : am_oks n L)  (hso : am_oks n ((0, x) :: st)) (hd : decode (am_by k) pc = .ok (.ifCond .eq off, 3)) (ht : (pc : Int) + off = (tgt : Int)) (kt : x = 0 → am_Kk p l e R s m args below meth c Q D dA b A k n0 ad n tgt L st n μ) (kf : ¬ x = 0 → am_Kk p l e R s m args below meth c Q D dA b A k n0 ad n (pc + 3) L st n μ) : W p l e R s m args below meth c H locs (n - n0) (am_sl n - am_sl n0) Q (F0 m pc cls (((0, x) :: st).map (am_cv b ad))) := by
  have hx : -2147483648 ≤ x ∧ x < 2147483648 := am_oks_head hso
  have hy : (-2147483648 : Int) ≤ 0 ∧ (0 : Int) < 2147483648 := by decide
  have hr := am_oks_tail hso
  have h9 := am_eq32 hx hy
  exact lv_if_eq hF.1 hF.2.1 hd ht (fun q => am_kk0 (kt (h9.mp q)) hH hL hLo hr) (fun q => am_kk0 (kf (fun z => q (h9.mpr z))) hH hL hLo hr)
theorem am_o_icmp_lt {x y off : Int} {tgt : Nat} (hF : am_F p R s m args meth c k) (hH : am_H D dA b A s ad n μ H locs) (hL : am_L b ad L cls (am_ml k)) (hLo : am_oks n L)  (hso : am_oks n ((0, y) :: (0, x) :: st)) (hd : decode (am_by k) pc = .ok (.if_icmp .lt off, 3)) (ht : (pc : Int) + off = (tgt : Int)) (kt : x < y → am_Kk p l e R s m args below meth c Q D dA b A k n0 ad n tgt L st n μ) (kf : ¬ x < y → am_Kk p l e R s m args below meth c Q D dA b A k n0 ad n (pc + 3) L st n μ) : W p l e R s m args below meth c H locs (n - n0) (am_sl n - am_sl n0) Q (F0 m pc cls (((0, y) :: (0, x) :: st).map (am_cv b ad))) := by
  have hx : -2147483648 ≤ x ∧ x < 2147483648 := am_oks_head (am_oks_tail hso)
  have hy : -2147483648 ≤ y ∧ y < 2147483648 := am_oks_head hso
  have hr := am_oks_tail (am_oks_tail hso)
  have h9 := am_lt32 hx hy
  exact lv_icmp_lt hF.1 hF.2.1 hd ht (fun q => am_kk0 (kt (h9.mp q)) hH hL hLo hr) (fun q => am_kk0 (kf (fun z => q (h9.mpr z))) hH hL hLo hr)
theorem am_o_if_lt {x y off : Int} {tgt : Nat} (hF : am_F p R s m args meth c k) (hH : am_H D dA b A s ad n μ H locs) (hL : am_L b ad L cls (am_ml k)) (hLo : am_oks n L)  (hso : am_oks n ((0, x) :: st)) (hd : decode (am_by k) pc = .ok (.ifCond .lt off, 3)) (ht : (pc : Int) + off = (tgt : Int)) (kt : x < 0 → am_Kk p l e R s m args below meth c Q D dA b A k n0 ad n tgt L st n μ) (kf : ¬ x < 0 → am_Kk p l e R s m args below meth c Q D dA b A k n0 ad n (pc + 3) L st n μ) : W p l e R s m args below meth c H locs (n - n0) (am_sl n - am_sl n0) Q (F0 m pc cls (((0, x) :: st).map (am_cv b ad))) := by
  have hx : -2147483648 ≤ x ∧ x < 2147483648 := am_oks_head hso
  have hy : (-2147483648 : Int) ≤ 0 ∧ (0 : Int) < 2147483648 := by decide
  have hr := am_oks_tail hso
  have h9 := am_lt32 hx hy
  exact lv_if_lt hF.1 hF.2.1 hd ht (fun q => am_kk0 (kt (h9.mp q)) hH hL hLo hr) (fun q => am_kk0 (kf (fun z => q (h9.mpr z))) hH hL hLo hr)
theorem am_o_icmp_ge {x y off : Int} {tgt : Nat} (hF : am_F p R s m args meth c k) (hH : am_H D dA b A s ad n μ H locs) (hL : am_L b ad L cls (am_ml k)) (hLo : am_oks n L)  (hso : am_oks n ((0, y) :: (0, x) :: st)) (hd : decode (am_by k) pc = .ok (.if_icmp .ge off, 3)) (ht : (pc : Int) + off = (tgt : Int)) (kt : y ≤ x → am_Kk p l e R s m args below meth c Q D dA b A k n0 ad n tgt L st n μ) (kf : ¬ y ≤ x → am_Kk p l e R s m args below meth c Q D dA b A k n0 ad n (pc + 3) L st n μ) : W p l e R s m args below meth c H locs (n - n0) (am_sl n - am_sl n0) Q (F0 m pc cls (((0, y) :: (0, x) :: st).map (am_cv b ad))) := by
  have hx : -2147483648 ≤ x ∧ x < 2147483648 := am_oks_head (am_oks_tail hso)
  have hy : -2147483648 ≤ y ∧ y < 2147483648 := am_oks_head hso
  have hr := am_oks_tail (am_oks_tail hso)
  have h9 := am_le32 hy hx
  exact lv_icmp_ge hF.1 hF.2.1 hd ht (fun q => am_kk0 (kt (h9.mp q)) hH hL hLo hr) (fun q => am_kk0 (kf (fun z => q (h9.mpr z))) hH hL hLo hr)
theorem am_o_if_ge {x y off : Int} {tgt : Nat} (hF : am_F p R s m args meth c k) (hH : am_H D dA b A s ad n μ H locs) (hL : am_L b ad L cls (am_ml k)) (hLo : am_oks n L)  (hso : am_oks n ((0, x) :: st)) (hd : decode (am_by k) pc = .ok (.ifCond .ge off, 3)) (ht : (pc : Int) + off = (tgt : Int)) (kt : 0 ≤ x → am_Kk p l e R s m args below meth c Q D dA b A k n0 ad n tgt L st n μ) (kf : ¬ 0 ≤ x → am_Kk p l e R s m args below meth c Q D dA b A k n0 ad n (pc + 3) L st n μ) : W p l e R s m args below meth c H locs (n - n0) (am_sl n - am_sl n0) Q (F0 m pc cls (((0, x) :: st).map (am_cv b ad))) := by
  have hx : -2147483648 ≤ x ∧ x < 2147483648 := am_oks_head hso
  have hy : (-2147483648 : Int) ≤ 0 ∧ (0 : Int) < 2147483648 := by decide
  have hr := am_oks_tail hso
  have h9 := am_le32 hy hx
  exact lv_if_ge hF.1 hF.2.1 hd ht (fun q => am_kk0 (kt (h9.mp q)) hH hL hLo hr) (fun q => am_kk0 (kf (fun z => q (h9.mpr z))) hH hL hLo hr)
theorem am_o_icmp_gt {x y off : Int} {tgt : Nat} (hF : am_F p R s m args meth c k) (hH : am_H D dA b A s ad n μ H locs) (hL : am_L b ad L cls (am_ml k)) (hLo : am_oks n L)  (hso : am_oks n ((0, y) :: (0, x) :: st)) (hd : decode (am_by k) pc = .ok (.if_icmp .gt off, 3)) (ht : (pc : Int) + off = (tgt : Int)) (kt : y < x → am_Kk p l e R s m args below meth c Q D dA b A k n0 ad n tgt L st n μ) (kf : ¬ y < x → am_Kk p l e R s m args below meth c Q D dA b A k n0 ad n (pc + 3) L st n μ) : W p l e R s m args below meth c H locs (n - n0) (am_sl n - am_sl n0) Q (F0 m pc cls (((0, y) :: (0, x) :: st).map (am_cv b ad))) := by
  have hx : -2147483648 ≤ x ∧ x < 2147483648 := am_oks_head (am_oks_tail hso)
  have hy : -2147483648 ≤ y ∧ y < 2147483648 := am_oks_head hso
  have hr := am_oks_tail (am_oks_tail hso)
  have h9 := am_lt32 hy hx
  exact lv_icmp_gt hF.1 hF.2.1 hd ht (fun q => am_kk0 (kt (h9.mp q)) hH hL hLo hr) (fun q => am_kk0 (kf (fun z => q (h9.mpr z))) hH hL hLo hr)
theorem am_o_if_gt {x y off : Int} {tgt : Nat} (hF : am_F p R s m args meth c k) (hH : am_H D dA b A s ad n μ H locs) (hL : am_L b ad L cls (am_ml k)) (hLo : am_oks n L)  (hso : am_oks n ((0, x) :: st)) (hd : decode (am_by k) pc = .ok (.ifCond .gt off, 3)) (ht : (pc : Int) + off = (tgt : Int)) (kt : 0 < x → am_Kk p l e R s m args below meth c Q D dA b A k n0 ad n tgt L st n μ) (kf : ¬ 0 < x → am_Kk p l e R s m args below meth c Q D dA b A k n0 ad n (pc + 3) L st n μ) : W p l e R s m args below meth c H locs (n - n0) (am_sl n - am_sl n0) Q (F0 m pc cls (((0, x) :: st).map (am_cv b ad))) := by
  have hx : -2147483648 ≤ x ∧ x < 2147483648 := am_oks_head hso
  have hy : (-2147483648 : Int) ≤ 0 ∧ (0 : Int) < 2147483648 := by decide
  have hr := am_oks_tail hso
  have h9 := am_lt32 hy hx
  exact lv_if_gt hF.1 hF.2.1 hd ht (fun q => am_kk0 (kt (h9.mp q)) hH hL hLo hr) (fun q => am_kk0 (kf (fun z => q (h9.mpr z))) hH hL hLo hr)
theorem am_o_icmp_le {x y off : Int} {tgt : Nat} (hF : am_F p R s m args meth c k) (hH : am_H D dA b A s ad n μ H locs) (hL : am_L b ad L cls (am_ml k)) (hLo : am_oks n L)  (hso : am_oks n ((0, y) :: (0, x) :: st)) (hd : decode (am_by k) pc = .ok (.if_icmp .le off, 3)) (ht : (pc : Int) + off = (tgt : Int)) (kt : x ≤ y → am_Kk p l e R s m args below meth c Q D dA b A k n0 ad n tgt L st n μ) (kf : ¬ x ≤ y → am_Kk p l e R s m args below meth c Q D dA b A k n0 ad n (pc + 3) L st n μ) : W p l e R s m args below meth c H locs (n - n0) (am_sl n - am_sl n0) Q (F0 m pc cls (((0, y) :: (0, x) :: st).map (am_cv b ad))) := by
  have hx : -2147483648 ≤ x ∧ x < 2147483648 := am_oks_head (am_oks_tail hso)
  have hy : -2147483648 ≤ y ∧ y < 2147483648 := am_oks_head hso
  have hr := am_oks_tail (am_oks_tail hso)
  have h9 := am_le32 hx hy
  exact lv_icmp_le hF.1 hF.2.1 hd ht (fun q => am_kk0 (kt (h9.mp q)) hH hL hLo hr) (fun q => am_kk0 (kf (fun z => q (h9.mpr z))) hH hL hLo hr)
theorem am_o_if_le {x y off : Int} {tgt : Nat} (hF : am_F p R s m args meth c k) (hH : am_H D dA b A s ad n μ H locs) (hL : am_L b ad L cls (am_ml k)) (hLo : am_oks n L)  (hso : am_oks n ((0, x) :: st)) (hd : decode (am_by k) pc = .ok (.ifCond .le off, 3)) (ht : (pc : Int) + off = (tgt : Int)) (kt : x ≤ 0 → am_Kk p l e R s m args below meth c Q D dA b A k n0 ad n tgt L st n μ) (kf : ¬ x ≤ 0 → am_Kk p l e R s m args below meth c Q D dA b A k n0 ad n (pc + 3) L st n μ) : W p l e R s m args below meth c H locs (n - n0) (am_sl n - am_sl n0) Q (F0 m pc cls (((0, x) :: st).map (am_cv b ad))) := by
  have hx : -2147483648 ≤ x ∧ x < 2147483648 := am_oks_head hso
  have hy : (-2147483648 : Int) ≤ 0 ∧ (0 : Int) < 2147483648 := by decide
  have hr := am_oks_tail hso
  have h9 := am_le32 hx hy
  exact lv_if_le hF.1 hF.2.1 hd ht (fun q => am_kk0 (kt (h9.mp q)) hH hL hLo hr) (fun q => am_kk0 (kf (fun z => q (h9.mpr z))) hH hL hLo hr)
theorem am_o_icmp_ne {x y off : Int} {tgt : Nat} (hF : am_F p R s m args meth c k) (hH : am_H D dA b A s ad n μ H locs) (hL : am_L b ad L cls (am_ml k)) (hLo : am_oks n L)  (hso : am_oks n ((0, y) :: (0, x) :: st)) (hd : decode (am_by k) pc = .ok (.if_icmp .ne off, 3)) (ht : (pc : Int) + off = (tgt : Int)) (kt : x ≠ y → am_Kk p l e R s m args below meth c Q D dA b A k n0 ad n tgt L st n μ) (kf : ¬ x ≠ y → am_Kk p l e R s m args below meth c Q D dA b A k n0 ad n (pc + 3) L st n μ) : W p l e R s m args below meth c H locs (n - n0) (am_sl n - am_sl n0) Q (F0 m pc cls (((0, y) :: (0, x) :: st).map (am_cv b ad))) := by
  have hx : -2147483648 ≤ x ∧ x < 2147483648 := am_oks_head (am_oks_tail hso)
  have hy : -2147483648 ≤ y ∧ y < 2147483648 := am_oks_head hso
  have hr := am_oks_tail (am_oks_tail hso)
  have h9 := not_congr (am_eq32 hx hy)
  exact lv_icmp_ne hF.1 hF.2.1 hd ht (fun q => am_kk0 (kt (h9.mp q)) hH hL hLo hr) (fun q => am_kk0 (kf (fun z => (h9.mpr z) q)) hH hL hLo hr)
theorem am_o_if_ne {x y off : Int} {tgt : Nat} (hF : am_F p R s m args meth c k) (hH : am_H D dA b A s ad n μ H locs) (hL : am_L b ad L cls (am_ml k)) (hLo : am_oks n L)  (hso : am_oks n ((0, x) :: st)) (hd : decode (am_by k) pc = .ok (.ifCond .ne off, 3)) (ht : (pc : Int) + off = (tgt : Int)) (kt : x ≠ 0 → am_Kk p l e R s m args below meth c Q D dA b A k n0 ad n tgt L st n μ) (kf : ¬ x ≠ 0 → am_Kk p l e R s m args below meth c Q D dA b A k n0 ad n (pc + 3) L st n μ) : W p l e R s m args below meth c H locs (n - n0) (am_sl n - am_sl n0) Q (F0 m pc cls (((0, x) :: st).map (am_cv b ad))) := by
  have hx : -2147483648 ≤ x ∧ x < 2147483648 := am_oks_head hso
  have hy : (-2147483648 : Int) ≤ 0 ∧ (0 : Int) < 2147483648 := by decide
  have hr := am_oks_tail hso
  have h9 := not_congr (am_eq32 hx hy)
  exact lv_if_ne hF.1 hF.2.1 hd ht (fun q => am_kk0 (kt (h9.mp q)) hH hL hLo hr) (fun q => am_kk0 (kf (fun z => (h9.mpr z) q)) hH hL hLo hr)
theorem am_o_goto {off : Int} {tgt : Nat} (hF : am_F p R s m args meth c k) (hH : am_H D dA b A s ad n μ H locs) (hL : am_L b ad L cls (am_ml k)) (hLo : am_oks n L)  (hso : am_oks n st) (hd : decode (am_by k) pc = .ok (.goto off, 3)) (ht : (pc : Int) + off = (tgt : Int)) (kk : am_Kk p l e R s m args below meth c Q D dA b A k n0 ad n (tgt) (L) (st) (n) (μ)) : W p l e R s m args below meth c H locs (n - n0) (am_sl n - am_sl n0) Q (F0 m pc cls ((st).map (am_cv b ad))) := lv_goto hF.1 hF.2.1 hd ht (am_kk0 kk hH hL hLo hso)
theorem am_o_ifnull {x off : Int} {tgt : Nat} (hF : am_F p R s m args meth c k) (hH : am_H D dA b A s ad n μ H locs) (hL : am_L b ad L cls (am_ml k)) (hLo : am_oks n L)  (hso : am_oks n ((2, x) :: st)) (hd : decode (am_by k) pc = .ok (.ifnull off, 3)) (ht : (pc : Int) + off = (tgt : Int)) (kt : x < 0 → am_Kk p l e R s m args below meth c Q D dA b A k n0 ad n tgt L st n μ) (kf : ¬ x < 0 → am_Kk p l e R s m args below meth c Q D dA b A k n0 ad n (pc + 3) L st n μ) : W p l e R s m args below meth c H locs (n - n0) (am_sl n - am_sl n0) Q (F0 m pc cls (((2, x) :: st).map (am_cv b ad))) := by
  have hr := am_oks_tail hso
  rw [List.map_cons]
  by_cases h : x < 0
  · rw [am_cv2n b ad h]; exact lv_ifnullN hF.1 hF.2.1 hd ht (am_kk0 (kt h) hH hL hLo hr)
  · rw [am_cv2p b ad (by omega)]; exact lv_ifnull hF.1 hF.2.1 hd (am_kk0 (kf h) hH hL hLo hr)
theorem am_o_ifnonnull {x off : Int} {tgt : Nat} (hF : am_F p R s m args meth c k) (hH : am_H D dA b A s ad n μ H locs) (hL : am_L b ad L cls (am_ml k)) (hLo : am_oks n L)  (hso : am_oks n ((2, x) :: st)) (hd : decode (am_by k) pc = .ok (.ifnonnull off, 3)) (ht : (pc : Int) + off = (tgt : Int)) (kt : 0 ≤ x → am_Kk p l e R s m args below meth c Q D dA b A k n0 ad n tgt L st n μ) (kf : ¬ 0 ≤ x → am_Kk p l e R s m args below meth c Q D dA b A k n0 ad n (pc + 3) L st n μ) : W p l e R s m args below meth c H locs (n - n0) (am_sl n - am_sl n0) Q (F0 m pc cls (((2, x) :: st).map (am_cv b ad))) := by
  have hr := am_oks_tail hso
  rw [List.map_cons]
  by_cases h : 0 ≤ x
  · rw [am_cv2p b ad h]; exact lv_ifnonnull hF.1 hF.2.1 hd ht (am_kk0 (kt h) hH hL hLo hr)
  · rw [am_cv2n b ad (by omega)]; exact lv_ifnonnullN hF.1 hF.2.1 hd (am_kk0 (kf h) hH hL hLo hr)
theorem am_cat1 {v : am_V} (h : v.1 = 0 ∨ v.1 = 2) : (am_cv b ad v).category = 1 := by
  rw [am_cat_cv]
  unfold am_cat
  rw [if_neg (by omega)]
theorem am_o_dup {v : am_V} (hF : am_F p R s m args meth c k) (hH : am_H D dA b A s ad n μ H locs) (hL : am_L b ad L cls (am_ml k)) (hLo : am_oks n L)  (hso : am_oks n (v :: st)) (hv : v.1 = 0 ∨ v.1 = 2) (hd : decode (am_by k) pc = .ok (.dup, 1)) (kk : am_Kk p l e R s m args below meth c Q D dA b A k n0 ad n (pc + 1) (L) (v :: v :: st) (n) (μ)) : W p l e R s m args below meth c H locs (n - n0) (am_sl n - am_sl n0) Q (F0 m pc cls ((v :: st).map (am_cv b ad))) := lv_dup hF.1 hF.2.1 hd (am_cat1 hv) (am_kk0 kk hH hL hLo (am_oks_cons (am_oks_head hso) hso))
theorem am_o_dup_x1 {v w : am_V} (hF : am_F p R s m args meth c k) (hH : am_H D dA b A s ad n μ H locs) (hL : am_L b ad L cls (am_ml k)) (hLo : am_oks n L)  (hso : am_oks n (v :: w :: st)) (hv : v.1 = 0 ∨ v.1 = 2) (hw : w.1 = 0 ∨ w.1 = 2) (hd : decode (am_by k) pc = .ok (.dup_x1, 1)) (kk : am_Kk p l e R s m args below meth c Q D dA b A k n0 ad n (pc + 1) (L) (v :: w :: v :: st) (n) (μ)) : W p l e R s m args below meth c H locs (n - n0) (am_sl n - am_sl n0) Q (F0 m pc cls ((v :: w :: st).map (am_cv b ad))) := lv_dup_x1 hF.1 hF.2.1 hd (am_cat1 hv) (am_cat1 hw) (am_kk0 kk hH hL hLo (am_oks_cons (am_oks_head hso) (am_oks_cons (am_oks_head (am_oks_tail hso)) (am_oks_cons (am_oks_head hso) (am_oks_tail (am_oks_tail hso))))))
theorem am_o_dup2 {v w : am_V} (hF : am_F p R s m args meth c k) (hH : am_H D dA b A s ad n μ H locs) (hL : am_L b ad L cls (am_ml k)) (hLo : am_oks n L)  (hso : am_oks n (v :: w :: st)) (hv : v.1 = 0 ∨ v.1 = 2) (hw : w.1 = 0 ∨ w.1 = 2) (hd : decode (am_by k) pc = .ok (.dup2, 1)) (kk : am_Kk p l e R s m args below meth c Q D dA b A k n0 ad n (pc + 1) (L) (v :: w :: v :: w :: st) (n) (μ)) : W p l e R s m args below meth c H locs (n - n0) (am_sl n - am_sl n0) Q (F0 m pc cls ((v :: w :: st).map (am_cv b ad))) := lv_dup2_11 hF.1 hF.2.1 hd (am_cat1 hv) (am_cat1 hw) (am_kk0 kk hH hL hLo (am_oks_cons (am_oks_head hso) (am_oks_cons (am_oks_head (am_oks_tail hso)) hso)))
theorem am_o_pop {v : am_V} (hF : am_F p R s m args meth c k) (hH : am_H D dA b A s ad n μ H locs) (hL : am_L b ad L cls (am_ml k)) (hLo : am_oks n L)  (hso : am_oks n (v :: st)) (hv : v.1 = 0 ∨ v.1 = 2) (hd : decode (am_by k) pc = .ok (.pop, 1)) (kk : am_Kk p l e R s m args below meth c Q D dA b A k n0 ad n (pc + 1) (L) (st) (n) (μ)) : W p l e R s m args below meth c H locs (n - n0) (am_sl n - am_sl n0) Q (F0 m pc cls ((v :: st).map (am_cv b ad))) := lv_pop hF.1 hF.2.1 hd (am_cat1 hv) (am_kk0 kk hH hL hLo (am_oks_tail hso))
theorem am_o_pop2 {x : Int} (hF : am_F p R s m args meth c k) (hH : am_H D dA b A s ad n μ H locs) (hL : am_L b ad L cls (am_ml k)) (hLo : am_oks n L)  (hso : am_oks n ((1, x) :: st)) (hd : decode (am_by k) pc = .ok (.pop2, 1)) (kk : am_Kk p l e R s m args below meth c Q D dA b A k n0 ad n (pc + 1) (L) (st) (n) (μ)) : W p l e R s m args below meth c H locs (n - n0) (am_sl n - am_sl n0) Q (F0 m pc cls (((1, x) :: st).map (am_cv b ad))) := lv_pop2_2 hF.1 hF.2.1 hd rfl (am_kk0 kk hH hL hLo (am_oks_tail hso))
theorem am_o_table {x dflt lo hi : Int} {offs : Array Int} {len tgt : Nat} (hF : am_F p R s m args meth c k) (hH : am_H D dA b A s ad n μ H locs) (hL : am_L b ad L cls (am_ml k)) (hLo : am_oks n L)  (hso : am_oks n ((0, x) :: st)) (hd : decode (am_by k) pc = .ok (.tableswitch dflt lo hi offs, len)) (ht : ((x < lo ∨ hi < x) ∧ (pc : Int) + dflt = (tgt : Int)) ∨ (¬ (x < lo ∨ hi < x) ∧ ∃ off, offs[(x - lo).toNat]? = some off ∧ (pc : Int) + off = (tgt : Int))) (kk : am_Kk p l e R s m args below meth c Q D dA b A k n0 ad n (tgt) (L) (st) (n) (μ)) : W p l e R s m args below meth c H locs (n - n0) (am_sl n - am_sl n0) Q (F0 m pc cls (((0, x) :: st).map (am_cv b ad))) := by
  have hx : -2147483648 ≤ x ∧ x < 2147483648 := am_oks_head hso
  have hr := am_oks_tail hso
  rcases ht with ⟨h1, h2⟩ | ⟨h1, off, h2, h3⟩
  · exact lv_tableOut hF.1 hF.2.1 hd (by rw [am_32 hx]; exact h1) h2 (am_kk0 kk hH hL hLo hr)
  · exact lv_tableIn hF.1 hF.2.1 hd (by rw [am_32 hx]; omega) (by rw [am_32 hx]; omega) (by rw [am_32 hx]; exact h2) h3 (am_kk0 kk hH hL hLo hr)
end

/-! THE ABSTRACT MACHINE. Values are (tag, number): 0 int, 1 long, 2 reference (a cell's number; below 0: null), 3 the script; 9 nothing. Memory: cell, place -> number. What a cell is stands fixed by its number (am_kind). -/
abbrev am_V : Type := Nat × Int
abbrev am_M : Type := Int → Int → Int
def am_w32 (x : Int) : Int := Int.bmod x 4294967296
def am_w64 (x : Int) : Int := Int.bmod x 18446744073709551616
def am_set (μ : am_M) (i j x : Int) : am_M := fun a b => if a = i ∧ b = j then x else μ a b
def am_kind (i : Int) : Nat × Nat := if i < 0 then (9, 0) else am_kindN i.toNat
/-- the field's sort: 0 int, 1 long, 2 reference, 3 boolean -/
def am_fs (ci j : Nat) : Nat × Bool := (am_fts.getD ci []).getD j (9, true)
def am_ft (ci j : Nat) : Nat := if (am_fs ci j).1 = 3 then 0 else (am_fs ci j).1
def am_N (ci : Nat) : Nat := (am_fts.getD ci []).length
/-- the tag of a place of a cell, and how many places it has -/
def am_tag (k : Nat × Nat) (j : Nat) : Nat := match k.1 with
  | 0 => am_ft k.2 j
  | 1 => 0
  | 2 => 1
  | _ => 2
def am_len (k : Nat × Nat) : Nat := match k.1 with
  | 0 => am_N k.2
  | _ => k.2
/-- what a new cell holds -/
def am_zero (k : Nat × Nat) : Int → Int := fun j => if am_tag k j.toNat = 2 then -1 else 0
def am_new (μ : am_M) (i : Int) (f : Int → Int) : am_M := fun a b => if a = i then f b else μ a b
def am_kill (L : List am_V) (i : Nat) : List am_V := match i with
  | 0 => L
  | i + 1 => match L[i]? with
    | some (1, _) => L.set i (9, 0)
    | _ => L
def am_sto (L : List am_V) (i : Nat) (v : am_V) : List am_V := (am_kill L i).set i v
def am_sto2 (L : List am_V) (i : Nat) (v : am_V) : List am_V := ((am_kill L i).set i v).set (i + 1) (9, 0)
def am_ent : List am_V → List am_V
  | [] => []
  | v :: r => if v.1 = 1 then v :: (9, 0) :: am_ent r else v :: am_ent r
def am_entry (k : Nat) (as : List am_V) : List am_V := am_ent as ++ List.replicate (am_ml k - (am_ent as).length) (9, 0)
def am_cat (v : am_V) : Nat := if v.1 = 1 then 2 else 1
def am_cats (l : List am_V) : Nat := (l.map am_cat).sum
abbrev am_S : Type := Nat × List am_V × List am_V × Nat × am_M
abbrev am_R : Type := am_S ⊕ ((Nat × List am_V × List am_V) ⊕ Option am_V)
abbrev am_Sc : Type := Option (Int × (Int → Int))
def am_go (pc : Nat) (off : Int) (L st : List am_V) (n : Nat) (μ : am_M) : Option am_R := if 0 ≤ (pc : Int) + off then some (.inl (((pc : Int) + off).toNat, L, st, n, μ)) else none
def am_if (c : Prop) [Decidable c] (pc : Nat) (off : Int) (L st : List am_V) (n : Nat) (μ : am_M) : Option am_R := if 0 ≤ (pc : Int) + off then some (.inl ((if c then ((pc : Int) + off).toNat else pc + 3), L, st, n, μ)) else none
def am_cc (c : ClassFile.Cond) (x y : Int) : Bool := match c with
  | .eq => decide (x = y)
  | .ne => decide (x ≠ y)
  | .lt => decide (x < y)
  | .ge => decide (y ≤ x)
  | .gt => decide (y < x)
  | .le => decide (x ≤ y)
def am_lin (ins : Instr) : Nat := match ins with
  | .iload _ | .lload _ | .aload _ | .istore _ | .lstore _ | .astore _ | .bipush _ | .ldc _ | .newarray _ => 2
  | .sipush _ | .ldc2_w _ | .iinc _ _ | .if_icmp _ _ | .ifCond _ _ | .ifnull _ | .ifnonnull _ | .goto _ | .getfield _ | .putfield _ | .new _ | .anewarray _ | .invokevirtual _ | .invokespecial _ | .invokestatic _ => 3
  | .multianewarray _ _ => 4
  | _ => 1
def am_len_ok (ins : Instr) (len : Nat) : Bool := match ins with
  | .tableswitch _ _ _ _ => true
  | _ => len == am_lin ins
def am_ld (t : Nat) (pc' : Nat) (i : Nat) (L st : List am_V) (n : Nat) (μ : am_M) : Option am_R := match L[i]? with
  | some v => if v.1 = t then some (.inl (pc', L, v :: st, n, μ)) else none
  | none => none
def am_lda (pc' : Nat) (i : Nat) (L st : List am_V) (n : Nat) (μ : am_M) : Option am_R := match L[i]? with
  | some v => if v.1 = 2 ∨ v.1 = 3 then some (.inl (pc', L, v :: st, n, μ)) else none
  | none => none
def am_st1 (k t : Nat) (pc' : Nat) (i : Nat) (L st : List am_V) (n : Nat) (μ : am_M) : Option am_R := match st with
  | v :: rest => if v.1 = t ∧ i < am_ml k then some (.inl (pc', am_sto L i v, rest, n, μ)) else none
  | [] => none
def am_st2 (k : Nat) (pc' : Nat) (i : Nat) (L st : List am_V) (n : Nat) (μ : am_M) : Option am_R := match st with
  | v :: rest => if v.1 = 1 ∧ i + 1 < am_ml k then some (.inl (pc', am_sto2 L i v, rest, n, μ)) else none
  | [] => none
/-- two ints, or two longs, to one -/
def am_bin (t r : Nat) (f : Int → Int → Int) (pc : Nat) (L st : List am_V) (n : Nat) (μ : am_M) : Option am_R := match st with
  | y :: x :: rest => if y.1 = t ∧ x.1 = t then some (.inl (pc + 1, L, (r, f x.2 y.2) :: rest, n, μ)) else none
  | _ => none
def am_un (t r : Nat) (f : Int → Int) (pc : Nat) (L st : List am_V) (n : Nat) (μ : am_M) : Option am_R := match st with
  | x :: rest => if x.1 = t then some (.inl (pc + 1, L, (r, f x.2) :: rest, n, μ)) else none
  | _ => none
def am_cmp (x y : Int) : Int := if y < x then 1 else if x = y then 0 else -1
/-- an array's place is read -/
def am_ald (ks : List Nat) (t : Nat) (sc : am_Sc) (pc : Nat) (L st : List am_V) (n : Nat) (μ : am_M) : Option am_R := match st with
  | j :: a :: rest => if j.1 = 0 ∧ a.1 = 2 ∧ (am_kind a.2).1 ∈ ks ∧ 0 ≤ j.2 ∧ j.2 < ((am_kind a.2).2 : Int) then some (.inl (pc + 1, L, (t, μ a.2 j.2) :: rest, n, μ))
    else match sc with
      | some (l, xs) => if t = 0 ∧ j.1 = 0 ∧ a.1 = 3 ∧ 0 ≤ j.2 ∧ j.2 < l then some (.inl (pc + 1, L, (0, xs j.2) :: rest, n, μ)) else none
      | none => none
  | _ => none
def am_ast (kd t : Nat) (pc : Nat) (L st : List am_V) (n : Nat) (μ : am_M) : Option am_R := match st with
  | x :: j :: a :: rest => if x.1 = t ∧ j.1 = 0 ∧ a.1 = 2 ∧ (am_kind a.2).1 = kd ∧ 0 ≤ j.2 ∧ j.2 < ((am_kind a.2).2 : Int) ∧ (t = 2 → am_kind x.2 = (0, 3)) then some (.inl (pc + 1, L, rest, n, am_set μ a.2 j.2 x.2)) else none
  | _ => none
def am_call (kd k idx : Nat) (L st : List am_V) : Option am_R := match am_mls.lookup (am_cl k, idx) with
  | some (k', _, _) => if am_kd k' = kd ∧ am_fr k' + 1 ≤ am_fr k ∧ 19 + am_ml k' + am_lo k' ≤ am_lo k ∧ k' < am_lawk then
      (if kd = 1 then
        if am_na k' ≤ st.length ∧ (st.take (am_na k')).all (fun v => decide (v.1 ≤ 2)) = true ∧ am_cats (st.drop (am_na k')) ≤ 8 ∧ am_cats (st.take (am_na k')).reverse ≤ am_ml k' then some (.inr (.inl (k', (st.take (am_na k')).reverse, st.drop (am_na k')))) else none
      else match st.drop (am_na k') with
        | a :: rest => if a.1 = 2 ∧ am_kind a.2 = (0, am_cl k') ∧ (st.take (am_na k')).all (fun v => decide (v.1 ≤ 2)) = true ∧ am_cats rest ≤ 8 ∧ am_cats (a :: (st.take (am_na k')).reverse) ≤ am_ml k' then some (.inr (.inl (k', a :: (st.take (am_na k')).reverse, rest))) else none
        | [] => none)
    else none
  | none => none
def am_abs (x : Int) : Int := if 0 ≤ x then x else am_w32 (-x)
def am_mabs (pc : Nat) (L st : List am_V) (n : Nat) (μ : am_M) : Option am_R := match st with
  | x :: rest => if x.1 = 0 ∧ am_cats rest ≤ 8 then some (.inl (pc + 3, L, (0, am_abs x.2) :: rest, n, μ)) else none
  | _ => none
def am_m2 (t : Nat) (g : Int → Int → Int) (pc : Nat) (L st : List am_V) (n : Nat) (μ : am_M) : Option am_R := match st with
  | y :: x :: rest => if x.1 = t ∧ y.1 = t ∧ am_cats rest ≤ 8 then some (.inl (pc + 3, L, (t, g x.2 y.2) :: rest, n, μ)) else none
  | _ => none
def am_do (sc : am_Sc) (k pc : Nat) (ins : Instr) (L st : List am_V) (n : Nat) (μ : am_M) : Option am_R := match ins with
  | .iconst i => if -32768 ≤ i ∧ i ≤ 32767 then some (.inl (pc + 1, L, (0, i) :: st, n, μ)) else none
  | .bipush i => if -128 ≤ i ∧ i ≤ 127 then some (.inl (pc + 2, L, (0, i) :: st, n, μ)) else none
  | .sipush i => if -32768 ≤ i ∧ i ≤ 32767 then some (.inl (pc + 3, L, (0, i) :: st, n, μ)) else none
  | .lconst i => some (.inl (pc + 1, L, (1, (i : Nat)) :: st, n, μ))
  | .ldc idx => match am_ldcs.lookup (am_cl k, idx) with
    | some (x, _) => some (.inl (pc + 2, L, (0, x) :: st, n, μ))
    | none => none
  | .ldc2_w idx => match am_ldc2s.lookup (am_cl k, idx) with
    | some (x, _) => some (.inl (pc + 3, L, (1, x) :: st, n, μ))
    | none => none
  | .aconst_null => some (.inl (pc + 1, L, (2, -1) :: st, n, μ))
  | .iload i => am_ld 0 (pc + 2) i L st n μ
  | .iload_n i => am_ld 0 (pc + 1) i L st n μ
  | .lload i => am_ld 1 (pc + 2) i L st n μ
  | .lload_n i => am_ld 1 (pc + 1) i L st n μ
  | .aload i => am_lda (pc + 2) i L st n μ
  | .aload_n i => am_lda (pc + 1) i L st n μ
  | .istore i => am_st1 k 0 (pc + 2) i L st n μ
  | .istore_n i => am_st1 k 0 (pc + 1) i L st n μ
  | .lstore i => am_st2 k (pc + 2) i L st n μ
  | .lstore_n i => am_st2 k (pc + 1) i L st n μ
  | .astore i => am_st1 k 2 (pc + 2) i L st n μ
  | .astore_n i => am_st1 k 2 (pc + 1) i L st n μ
  | .iinc i c => match L[i]? with
    | some v => if v.1 = 0 ∧ i < am_ml k then some (.inl (pc + 3, am_sto L i (0, am_w32 (v.2 + c)), st, n, μ)) else none
    | none => none
  | .iadd => am_bin 0 0 (fun x y => am_w32 (x + y)) pc L st n μ
  | .isub => am_bin 0 0 (fun x y => am_w32 (x - y)) pc L st n μ
  | .imul => am_bin 0 0 (fun x y => am_w32 (x * y)) pc L st n μ
  | .ineg => am_un 0 0 (fun x => am_w32 (-x)) pc L st n μ
  | .iand => am_bin 0 0 (fun x y => (Int32.ofInt x &&& Int32.ofInt y).toInt) pc L st n μ
  | .ior => am_bin 0 0 (fun x y => (Int32.ofInt x ||| Int32.ofInt y).toInt) pc L st n μ
  | .ishl => am_bin 0 0 (fun x y => (Int32.ofInt x <<< (Int32.ofInt y &&& 31)).toInt) pc L st n μ
  | .ishr => am_bin 0 0 (fun x y => (Int32.ofInt x >>> (Int32.ofInt y &&& 31)).toInt) pc L st n μ
  | .ladd => am_bin 1 1 (fun x y => am_w64 (x + y)) pc L st n μ
  | .lmul => am_bin 1 1 (fun x y => am_w64 (x * y)) pc L st n μ
  | .lcmp => am_bin 1 0 am_cmp pc L st n μ
  | .i2l => am_un 0 1 (fun x => x) pc L st n μ
  | .l2i => am_un 1 0 am_w32 pc L st n μ
  | .if_icmp c off => match st with
    | y :: x :: rest => if y.1 = 0 ∧ x.1 = 0 then am_if (am_cc c x.2 y.2 = true) pc off L rest n μ else none
    | _ => none
  | .ifCond c off => match st with
    | x :: rest => if x.1 = 0 then am_if (am_cc c x.2 0 = true) pc off L rest n μ else none
    | _ => none
  | .ifnull off => match st with
    | x :: rest => if x.1 = 2 then am_if (x.2 < 0) pc off L rest n μ else none
    | _ => none
  | .ifnonnull off => match st with
    | x :: rest => if x.1 = 2 then am_if (0 ≤ x.2) pc off L rest n μ else none
    | _ => none
  | .goto off => am_go pc off L st n μ
  | .tableswitch dflt lo hi offs => match st with
    | x :: rest => if x.1 = 0 then (if x.2 < lo ∨ hi < x.2 then am_go pc dflt L rest n μ else match offs[(x.2 - lo).toNat]? with
      | some off => am_go pc off L rest n μ
      | none => none) else none
    | _ => none
  | .dup => match st with
    | v :: rest => if v.1 = 0 ∨ v.1 = 2 then some (.inl (pc + 1, L, v :: v :: rest, n, μ)) else none
    | _ => none
  | .dup_x1 => match st with
    | v :: w :: rest => if (v.1 = 0 ∨ v.1 = 2) ∧ (w.1 = 0 ∨ w.1 = 2) then some (.inl (pc + 1, L, v :: w :: v :: rest, n, μ)) else none
    | _ => none
  | .dup2 => match st with
    | v :: w :: rest => if (v.1 = 0 ∨ v.1 = 2) ∧ (w.1 = 0 ∨ w.1 = 2) then some (.inl (pc + 1, L, v :: w :: v :: w :: rest, n, μ)) else none
    | _ => none
  | .pop => match st with
    | v :: rest => if v.1 = 0 ∨ v.1 = 2 then some (.inl (pc + 1, L, rest, n, μ)) else none
    | _ => none
  | .pop2 => match st with
    | v :: rest => if v.1 = 1 then some (.inl (pc + 1, L, rest, n, μ)) else none
    | _ => none
  | .getfield idx => match am_fls.lookup (am_cl k, idx) with
    | some (q, _) => match st with
      | a :: rest => if a.1 = 2 ∧ am_kind a.2 = (0, q.1) then some (.inl (pc + 3, L, (am_ft q.1 q.2, μ a.2 q.2) :: rest, n, μ)) else none
      | _ => none
    | none => none
  | .putfield idx => match am_fls.lookup (am_cl k, idx) with
    | some (q, _) => match st with
      | v :: a :: rest => if a.1 = 2 ∧ am_kind a.2 = (0, q.1) ∧ v.1 = am_ft q.1 q.2 ∧ ((am_fs q.1 q.2).2 = true → am_kd k = 2 ∧ am_cl k = q.1) ∧ ((am_fs q.1 q.2).1 = 3 → v.2 = 0 ∨ v.2 = 1) then some (.inl (pc + 3, L, rest, n, am_set μ a.2 q.2 v.2)) else none
      | _ => none
    | none => none
  | .iaload => am_ald [1] 0 sc pc L st n μ
  | .laload => am_ald [2] 1 none pc L st n μ
  | .aaload => am_ald [3, 4] 2 none pc L st n μ
  | .iastore => am_ast 1 0 pc L st n μ
  | .lastore => am_ast 2 1 pc L st n μ
  | .aastore => am_ast 3 2 pc L st n μ
  | .arraylength => match st with
    | a :: rest => if a.1 = 2 ∧ (am_kind a.2).1 ∈ [1, 2, 3, 4] then some (.inl (pc + 1, L, (0, ((am_kind a.2).2 : Int)) :: rest, n, μ)) else match sc with
      | some (l, _) => if a.1 = 3 then some (.inl (pc + 1, L, (0, l) :: rest, n, μ)) else none
      | none => none
    | _ => none
  | .newarray ty => match st with
    | c :: rest => if c.1 = 0 ∧ 0 ≤ c.2 ∧ am_kind n = ((if newarray.typeOf ty = .int then 1 else 2), c.2.toNat) ∧ (newarray.typeOf ty = .int ∨ newarray.typeOf ty = .long) then some (.inl (pc + 2, L, (2, (n : Int)) :: rest, n + 1, am_new μ n (fun _ => 0))) else none
    | _ => none
  | .anewarray idx => match st with
    | c :: rest => if c.1 = 0 ∧ 0 ≤ c.2 ∧ am_kind n = (3, c.2.toNat) ∧ (am_nls.lookup (am_cl k, idx)).map (fun q => q.1) = some 100 then some (.inl (pc + 3, L, (2, (n : Int)) :: rest, n + 1, am_new μ n (fun _ => -1))) else none
    | _ => none
  | .multianewarray idx d => match st with
    | c :: b :: rest => if d = 2 ∧ c.1 = 0 ∧ b.1 = 0 ∧ b.2 = 2 ∧ 0 ≤ c.2 ∧ am_kind n = (4, 2) ∧ am_kind (n + 1) = (1, c.2.toNat) ∧ am_kind (n + 2) = (1, c.2.toNat) ∧ (am_nls.lookup (am_cl k, idx)).map (fun q => q.1) = some 101 then
        some (.inl (pc + 4, L, (2, (n : Int)) :: rest, n + 3, am_new (am_new (am_new μ n (fun j => if j = 0 then n + 1 else if j = 1 then n + 2 else -1)) (n + 1) (fun _ => 0)) (n + 2) (fun _ => 0))) else none
    | _ => none
  | .new idx => match am_nls.lookup (am_cl k, idx) with
    | some (ci, _) => if am_kind n = (0, ci) ∧ ci < 8 then some (.inl (pc + 3, L, (2, (n : Int)) :: st, n + 1, am_new μ n (am_zero (0, ci)))) else none
    | none => none
  | .invokespecial idx => match am_ois.lookup (am_cl k, idx) with
    | some _ => match st with
      | a :: rest => if a.1 = 2 ∧ 0 ≤ a.2 ∧ am_cats rest ≤ 8 ∧ 1 ≤ am_fr k ∧ 20 ≤ am_lo k then some (.inl (pc + 3, L, rest, n, μ)) else none
      | _ => none
    | none => am_call 2 k idx L st
  | .invokevirtual idx => am_call 0 k idx L st
  | .invokestatic idx => match am_mts.lookup (am_cl k, idx) with
    | some (f, _) => if 1 ≤ am_fr k ∧ 23 ≤ am_lo k then (if f = 0 then am_mabs pc L st n μ else if f = 1 then am_m2 0 max pc L st n μ else if f = 2 then am_m2 0 min pc L st n μ else am_m2 1 min pc L st n μ) else none
    | none => am_call 1 k idx L st
  | .ireturn => match st with
    | [v] => if v.1 = 0 ∧ (am_rt k = some .int ∨ am_rt k = some .boolean ∧ (v.2 = 0 ∨ v.2 = 1)) then some (.inr (.inr (some v))) else none
    | _ => none
  | .lreturn => match st with
    | [v] => if v.1 = 1 ∧ am_rt k = some .long then some (.inr (.inr (some v))) else none
    | _ => none
  | .areturn => match st with
    | [v] => if v.1 = 2 ∧ am_rt k = some (.object RX3) then some (.inr (.inr (some v))) else none
    | _ => none
  | .return_ => match st with
    | [] => if am_rt k = none then some (.inr (.inr none)) else none
    | _ => none
  | _ => none
def am_step (sc : am_Sc) (k pc : Nat) (L st : List am_V) (n : Nat) (μ : am_M) : Option am_R := match decode (am_by k) pc with
  | .ok (ins, len) => if am_len_ok ins len = true then am_do sc k pc ins L st n μ else none
  | _ => none
/-- a run of a method, with fuel: its answer, how many cells there are, memory -/
def am_ex : Nat → am_Sc → Nat → Nat → List am_V → List am_V → Nat → am_M → Option (Option am_V × Nat × am_M)
  | 0, _, _, _, _, _, _, _ => none
  | f + 1, sc, k, pc, L, st, n, μ => match am_step sc k pc L st n μ with
    | none => none
    | some (.inl (pc', L', st', n', μ')) => if n ≤ n' then am_ex f sc k pc' L' st' n' μ' else none
    | some (.inr (.inl (k', as, rest))) => match am_ex f none k' 0 (am_entry k' as) [] n μ with
      | none => none
      | some (r, n', μ') => am_ex f sc k (pc + 3) L (r.toList ++ rest) n' μ'
    | some (.inr (.inr r)) => some (r, n, μ)

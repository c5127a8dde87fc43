/-! the constructors: what they make, by the kernel -/
def ini1 : Option (Option am_V × Nat × am_M) := am_ex 400 none 49 0 (am_entry 49 [(2, 0)]) [] 1 (am_new am_mem0 0 (am_zero (0, 6)))
def ini2 (μ : am_M) : Option (Option am_V × Nat × am_M) := am_ex 400 none 87 0 (am_entry 87 [(2, 32)]) [] 33 (am_new μ 32 (am_zero (0, 7)))
/-- what is told of the cells at first -/
def iniL : List (Int × Int × Int) := [(0, 2, 0), (1, 2, 0), (1, 3, 0), (1, 4, 100), (1, 5, 2), (1, 6, 50), (1, 7, 15), (1, 8, 0), (4, 5, 1), (32, 0, 0), (32, 2, 100), (32, 3, 2), (32, 4, 50), (32, 5, 15), (32, 6, 0), (32, 7, 0), (32, 8, 0), (32, 21, 0)] ++ am_layL
def ini_ok : Bool := match ini1 with
  | some (r1, n1, μ1) => decide (r1 = none) && decide (n1 = 32) && (match ini2 μ1 with
    | some (r2, n2, μ2) => decide (r2 = none) && decide (n2 = 66) && iniL.all (fun q => decide (μ2 q.1 q.2.1 = q.2.2))
    | none => false)
  | none => false
theorem ini_true : ini_ok = true := by decide +kernel

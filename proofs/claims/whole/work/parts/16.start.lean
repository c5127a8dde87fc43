def R_law : String := "EdgeNotesLaw"
def lw_P (b : Addr) (xs : List Int32) (args : Array Value) (s : State) : Prop := args = #[.ref b] ∧ s.IntsAt b xs ∧ xs.length ≤ 3072 ∧ (Jvm.Cond.and given_1 narrow_1).before args s = true
def lw_Q (_ : Array Value) (s : State) (o : Outcome) (t : State) : Prop := o = .returned (some (.int 1)) ∧ Framed s o t [] 600000 7302250
def lw_Z (below : List Frame) (a : Array Value) (s : State) : State → Prop := fun t => ∃ o, t.status = .running ∧ Ended t below o ∧ lw_Q a s o t
/-- the law's own end, with 1 on the stack, nothing written that was there before, its room as the claim has it -/
theorem lw_ret {p : Program} {l : Launch} {e : Env} {s : State} {m : MethodId} {below : List Frame} {meth : Method} {c : Code} {b : Nat} (hx : p.tables.exec = Jvm.exec) (hb : c.code = code) (hr : meth.sig.returnType = ret) (hlocks : meth.locks = false) {pc : Nat} {H : Heap} {ls : Array Slot} (hdg : decode code pc = .ok (.ireturn, 1)) : W p l e room_1 s m #[Value.ref b] below meth c H [] 600000 7302250 (lw_Z below #[Value.ref b] s) (F0 m pc ls [.int 1]) := by
  intro T hT X
  obtain ⟨fs, hret, hrun, hended, hW, hframe⟩ := X.leave (v := some (.int 1)) (hlocks := hlocks) (fun h => by rw [hr] at h; cases h)
  have hmeth' : T.vm.method? m = some meth := X.method'
  refine ⟨T.setFrames fs, ?_, .returned (some (.int 1)), hrun, hended, rfl, ⟨_, rfl⟩, hW, hframe⟩
  jvm_step X.here [X.here.top, hx, hb, hdg, hmeth', hr, ret, narrow_b1]
  (try refine ⟨rfl, ?_⟩); (try refine ⟨rfl, ?_⟩)
  first | (intro acts; rw [hret _ acts rfl rfl rfl]) | rw [hret _ _ rfl rfl rfl]
  exact Steps.refl _
/-- what holds at the law's entry: the machine, the code, the tables' words (any of lw_tbl by 'hts w (by decide +kernel)'), the script of L ints xs at the cell b, what the Statement gives of the start (any of its parts by flat_of_before) -/
def lw_At (p : Program) (s : State) (m : MethodId) (meth : Method) (c : Code) (b L : Nat) (xs : Nat → Int32) : Prop :=
  p.tables.exec = Jvm.exec ∧ c.code = code ∧ meth.sig.returnType = ret ∧ c.maxLocals = 4 ∧ s.vm.findClass R_law = some m.cls ∧ (∀ w ∈ lw_tbl, w.before #[Value.ref b] s = true) ∧ va_X b L xs s s.heap ∧ b < s.heap.size ∧ meth.locks = false ∧ (Jvm.Cond.and given_1 narrow_1).before #[Value.ref b] s = true
/-! the claim's start, out of a run of the abstract machine -/
theorem am_arrI {s : State} {args : Array Value} {ty : FieldType} (hnt : (match ty with | .object _ => false | _ => true) = true) (h : (Cond.arrayClass ty).before args s = true) : ∃ cA : ClassId, ArrOfT s cA ty ∧ va_RA s cA ty := by
  obtain ⟨cA, kA, comp, h1, h2, h3⟩ := Cond.arrayClass_spec h
  refine ⟨cA, fun n z => ⟨fun k h => (by cases h), kA, h2, comp, h3⟩, ?_⟩
  cases ty with
  | object C => cases hnt
  | _ => exact h1
theorem am_arrN {s : State} {C : String} (h : va_AO C s) : ∃ cA : ClassId, ArrOfT s cA (.object C) ∧ va_RA s cA (.object C) := by
  obtain ⟨comp, c, k, h1, h2, h3, h4, h5⟩ := Cond.arrayOver_spec h
  exact ⟨c, fun n z => ⟨fun k h => (by cases h), k, h3, comp, h4⟩, k, comp, h3, h4, h1, h5⟩
theorem am_arrA {s : State} {ty : FieldType} (h : va_AOA ty s) : ∃ cA : ClassId, ArrOfT s cA (.array ty) ∧ va_RA s cA (.array ty) := by
  obtain ⟨comp, c, k, h1, h2, h3, h4⟩ := va_AOA.spec h
  cases hk : k.kind with
  | array comp2 t =>
    rw [hk] at h4
    simp only [Bool.and_eq_true, decide_eq_true_eq] at h4
    obtain ⟨h5, h6⟩ := h4
    subst h5
    exact ⟨c, fun n z => ⟨fun k h => (by cases h), k, h3, comp2, hk⟩, h6⟩
  | _ => rw [hk] at h4; cases h4
def am_mem0 : am_M := fun _ _ => 0
theorem am_start {p : Program} {e : Env} {s : State} {m : MethodId} {below : List Frame} {meth : Method} {c : Code} (l : Launch) {b L : Nat} {xs : Nat → Int32} (hL : L ≤ 3072) (C0 : lw_At p s m meth c b L xs) {f n' : Nat} {μ' : am_M} (hex : am_ex f (some ((L : Int), fun j => (xs j.toNat).toInt)) 140 0 (am_entry 140 [(3, 0)]) [] 0 am_mem0 = some (some (0, 1), n', μ')) (hn : n' ≤ 600000) (hs : am_sl n' ≤ 7302250) : W p l e room_1 s m #[Value.ref b] below meth c s.heap [] 0 0 (lw_Z below #[Value.ref b] s) (entryFrame m ([Value.ref b] : List Value).toArray 4) := by
  obtain ⟨hx, hb, hr, hml, hown, hts, hX, hbl, hlocks, hgv⟩ := C0
  have htb : ∀ w ∈ am_tb, w.before #[Value.ref b] s = true := fun w hw => hts w (List.mem_filter.mp hw).1
  have hAO : va_AO RX3 s := va_AO.of (hts _ (List.mem_of_getElem? am_v_arr.2.2.1))
  have hAOA : va_AOA .int s := va_AOA.of (hts _ (List.mem_of_getElem? am_v_arr.2.2.2))
  obtain ⟨d0, a0, r0⟩ := am_arrI (ty := .int) rfl (hts _ (List.mem_of_getElem? am_v_arr.1))
  obtain ⟨d1, a1, r1⟩ := am_arrI (ty := .long) rfl (hts _ (List.mem_of_getElem? am_v_arr.2.1))
  obtain ⟨d2, a2, r2⟩ := am_arrN hAO
  obtain ⟨d3, a3, r3⟩ := am_arrA hAOA
  let dA : Nat → ClassId := fun i => if i = 0 then d0 else if i = 1 then d1 else if i = 2 then d2 else d3
  have hcls : ∀ ci, ∃ (cC : ClassId) (iS : Nat → Nat), ci < 8 → u_Kn s (am_cn ci) (am_T ci) (am_N ci) cC iS := by
    intro ci
    by_cases h8 : ci < 8
    · obtain ⟨-, hins, hin, -⟩ := am_clsv h8
      obtain ⟨cC, iS, h⟩ := u_known htb hin (htb _ hins)
      exact ⟨cC, iS, fun _ => h⟩
    · exact ⟨d0, fun _ => 0, fun h => absurd h h8⟩
  let D : va_G := (fun ci => (hcls ci).choose, fun ci => (hcls ci).choose_spec.choose)
  have hK : va_K D vwCl (am_tys dA) s := by
    refine ⟨fun ci q hq => ?_, fun i q hq => ?_⟩
    · have h8 : ci < 8 := (List.getElem?_eq_some_iff.mp hq).1
      have e := (am_clsv h8).1
      rw [e] at hq
      cases hq
      exact (hcls ci).choose_spec.choose_spec h8
    · match i, hq with
      | 0, hq => cases hq; exact ⟨a0, r0⟩
      | 1, hq => cases hq; exact ⟨a1, r1⟩
      | 2, hq => cases hq; exact ⟨a2, r2⟩
      | 3, hq => cases hq; exact ⟨a3, r3⟩
      | i + 4, hq => simp [am_tys] at hq
  have hXs : am_X s := ⟨hAO, hAOA, fun q hq hne => by
    have h := List.all_eq_true.mp am_v_mls0 q hq
    simp only [Bool.and_eq_true, decide_eq_true_eq] at h
    rw [if_neg hne] at h
    exact va_Nw.of rfl (hts _ (List.mem_of_getElem? h.2))⟩
  have hF : am_F p room_1 s m #[Value.ref b] meth c 140 := ⟨hx, hb, hml, hown, htb, hXs, by show (10 : Nat) ≤ 12; decide, by show (256 : Nat) ≤ 514; decide, fun h => absurd (show (0 : Nat) = 2 from h) (by decide), hlocks, hr, by decide⟩
  have hH : am_H D dA b (fun q : Nat => s.heap.size ≤ q) s (fun i => i) 0 am_mem0 s.heap [] := ⟨hK, fun i q hq => by simp [am_W] at hq, ⟨fun i j p q hq => by simp [am_W] at hq, fun i q hq => by simp [am_W] at hq⟩, va_S.rf, fun i hi => absurd hi (by omega), fun q hq => hq⟩
  have hsc : am_Scr (some ((L : Int), fun j => (xs j.toNat).toInt)) b (fun q : Nat => s.heap.size ≤ q) s := by
    intro ln xs' e
    cases e
    refine ⟨L, rfl, by omega, ?_, hbl, Nat.not_le.mpr hbl, fun j => am_i32_ok 0 _⟩
    have e : (fun j : Nat => Int32.ofInt ((fun j : Int => (xs j.toNat).toInt) (j : Int))) = xs := by
      funext j
      show Int32.ofInt (xs ((j : Int)).toNat).toInt = xs j
      rw [Int32.ofInt_toInt, Int.toNat_natCast]
    rw [e]
    exact hX
  have hLe := am_entry_L (b := b) (ad := fun i => i) (k := 140) (as := [(3, 0)]) (by decide)
  have h9 := am_sound f hex (l := l) (e := e) (below := below) (Q := lw_Z below #[Value.ref b] s) (n0 := 0) hF hH hsc hLe (am_entry_oks (fun v hv => by simp at hv; rw [hv]; trivial)) (fun v hv => by cases hv) (Nat.le_refl 0) (by show n' - 0 ≤ 600000; omega) (by show am_sl n' - am_sl 0 ≤ 7302250; omega) (by
    intro ad' cls' H' locs' pc' ins ha hH' hr' hd hisr
    rcases hisr with ⟨rfl, -⟩ | ⟨rfl, x, hx1, -⟩ | ⟨rfl, x, hx1, -⟩ | ⟨rfl, hx1, -⟩
    · refine va_forget (fun q hq => hH'.2.2.2.1.2.2 q hq) ?_
      refine W.widen (k := 600000) (n := 7302250) (by omega) (by omega) ?_
      exact lw_ret hx hb hr hlocks hd
    · cases hx1
    · cases hx1
    · cases hx1)
  rw [lg_entry_eq]
  exact h9

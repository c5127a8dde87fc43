/-! the tables hold what the words of the Statement say -/
def am_cT (ci : Nat) : vw_C := vwCl.getD ci ("", TX0, 0)
def am_T (ci : Nat) : u_T := (am_cT ci).2.1
def am_tyo (ci : Nat) : Nat → FieldType := match ci with
  | 0 => tyX0
  | 1 => tyX1
  | 2 => tyX2
  | 3 => tyX3
  | 4 => tyX4
  | 5 => tyX5
  | 6 => tyX6
  | _ => tyX7
def am_co (o : Nat) : Nat × Nat × Nat := am_cls.getD o (0, 0, 0)
theorem am_all {p : Nat → Bool} {n : Nat} (h : (List.range n).all p = true) {k : Nat} (hk : k < n) : p k = true := List.all_eq_true.mp h k (List.mem_range.mpr hk)
def am_tb : List Cond := lw_tbl.filter goodWord
theorem am_mem {i : Nat} {w : Cond} (h : lw_tbl[i]? = some w) (hg : goodWord w = true) : w ∈ am_tb := List.mem_filter.mpr ⟨List.mem_of_getElem? h, hg⟩
theorem am_good {ws : List Cond} (h : ∀ w ∈ ws, w ∈ am_tb) : GoodIn am_tb ws := fun w hw => ⟨h w hw, good_of_word (List.mem_filter.mp (h w hw)).2⟩
theorem am_v_inst0 : (List.range 140).all (fun k => decide (am_kd k = 1) || decide (lw_tbl[am_ip k]? = some (Cond.instanceMethod (am_y k)))) = true := by decide +kernel
theorem am_v_inst {k : Nat} (hk : k < 140) (h : am_kd k ≠ 1) : Cond.instanceMethod (am_y k) ∈ am_tb := by
  have := am_all am_v_inst0 hk
  simp only [Bool.or_eq_true, decide_eq_true_eq] at this
  exact am_mem (this.resolve_left h) rfl
theorem am_v_stat0 : (List.range 140).all (fun k => !decide (am_kd k = 1) || decide (lw_tbl[am_ip k]? = some (Cond.static (am_y k)))) = true := by decide +kernel
theorem am_v_stat {k : Nat} (hk : k < 140) (h : am_kd k = 1) : Cond.static (am_y k) ∈ am_tb := by
  have := am_all am_v_stat0 hk
  simp only [h, decide_true, Bool.not_true, Bool.false_or, decide_eq_true_eq] at this
  exact am_mem this rfl
theorem am_v_sel0 : (List.range 140).all (fun k => !decide (am_kd k = 0) || decide (lw_tbl[am_sp k]? = some (Cond.selects (am_cn (am_cl k)) (am_y k) (am_y k)))) = true := by decide +kernel
theorem am_v_sel {k : Nat} (hk : k < 140) (h : am_kd k = 0) : Cond.selects (am_cn (am_cl k)) (am_y k) (am_y k) ∈ am_tb := by
  have := am_all am_v_sel0 hk
  simp only [h, decide_true, Bool.not_true, Bool.false_or, decide_eq_true_eq] at this
  exact am_mem this rfl
theorem am_v_y0 : (List.range 141).all (fun k => decide ((am_y k).cls = am_cn (am_cl k)) && decide ((am_y k).cls ≠ "java/lang/invoke/MethodHandle") && decide ((am_y k).cls ≠ "java/lang/invoke/VarHandle") && decide ((parseMethodDescriptor (am_y k).desc).map (fun d => d.parameters.length) = some (am_na k)) && plainName (am_y k).cls && (decide (am_kd k = 2) == decide ((am_y k).name = "<init>")) && decide (am_cl k < 10)) = true := by decide +kernel
theorem am_v_y {k : Nat} (hk : k < 141) : (am_y k).cls = am_cn (am_cl k) ∧ (am_y k).cls ≠ "java/lang/invoke/MethodHandle" ∧ (am_y k).cls ≠ "java/lang/invoke/VarHandle" ∧ (parseMethodDescriptor (am_y k).desc).map (fun d => d.parameters.length) = some (am_na k) ∧ plainName (am_y k).cls = true ∧ (am_kd k = 2 ↔ (am_y k).name = "<init>") ∧ am_cl k < 10 := by
  have := am_all am_v_y0 hk
  simp only [Bool.and_eq_true, decide_eq_true_eq, beq_iff_eq, decide_eq_decide] at this
  obtain ⟨⟨⟨⟨⟨⟨h1, h2⟩, h3⟩, h4⟩, h5⟩, h6⟩, h7⟩ := this
  exact ⟨h1, h2, h3, h4, h5, h6, h7⟩
theorem am_v_ini0 : (List.range 10).all (fun o => decide (lw_tbl[(am_co o).2.2]? = some (Cond.initialized (am_cn o)))) = true := by decide +kernel
theorem am_v_ini {o : Nat} (ho : o < 10) : Cond.initialized (am_cn o) ∈ am_tb := am_mem (of_decide_eq_true (am_all am_v_ini0 ho)) rfl
theorem am_v_mls0 : am_mls.all (fun q => decide (q.2.1 < 141) && decide (lw_tbl[q.2.2.2]? = some (if q.2.2.1 = 0 then Cond.methodLink (am_cn q.1.1) q.1.2 (am_y q.2.1) else Cond.methodLinkNest (am_cn q.1.1) q.1.2 (am_y q.2.1) RX6))) = true := by decide +kernel
theorem am_v_fls0 : am_fls.all (fun q => decide (q.2.1.1 < 8) && decide (q.2.1.2 < am_N q.2.1.1) && decide (lw_tbl[q.2.2]? = some (Cond.fieldLink (am_cn q.1.1) q.1.2 (am_T q.2.1.1 q.2.1.2).1 (am_T q.2.1.1 q.2.1.2).2.1 (am_T q.2.1.1 q.2.1.2).2.2.1))) = true := by decide +kernel
theorem am_v_ois0 : am_ois.all (fun q => decide (lw_tbl[q.2]? = some (Cond.methodLink (am_cn q.1.1) q.1.2 Lib.objectInit))) = true := by decide +kernel
theorem am_v_nls0 : am_nls.all (fun q => decide (lw_tbl[q.2.2]? = some (Cond.classLink (am_cn q.1.1) q.1.2 (if q.2.1 = 100 then RX3 else if q.2.1 = 101 then "[" ++ (FieldType.array .int).toString else am_cn q.2.1)))) = true := by decide +kernel
theorem am_v_cls0 : (List.range 8).all (fun ci => decide ((am_cT ci).2.2 = am_N ci) && decide ((am_cT ci).1 = am_cn ci) && decide (lw_tbl[(am_co ci).2.1]? = some (Cond.instantiable (am_cn ci) (am_N ci))) && (List.range (am_N ci)).all (fun j => decide (parseFieldDescriptor (am_T ci j).2.2.1 = some (am_tyo ci j)) && decide ((am_T ci j).2.2.2 = (am_fs ci j).2) && decide ((am_T ci j).1 = am_cn ci))) = true := by decide +kernel
theorem am_v_nm0 : ∀ ci, ci < 8 → ∀ a, a < am_N ci → ∀ b, b < am_N ci → a ≠ b → (am_T ci a).2.1 ≠ (am_T ci b).2.1 := by
  intro ci h
  match ci, h with
  | 0, _ => exact nmX0
  | 1, _ => exact nmX1
  | 2, _ => exact nmX2
  | 3, _ => exact nmX3
  | 4, _ => exact nmX4
  | 5, _ => exact nmX5
  | 6, _ => exact nmX6
  | 7, _ => exact nmX7
theorem am_v_uws0 : (List.range 8).all (fun ci => (u_ws (am_cn ci) (am_T ci) (am_N ci)).all (fun w => decide (w ∈ lw_tbl) && goodWord w)) = true := by decide +kernel
theorem am_v_obj : lw_tbl[am_poInst]? = some (Cond.instanceMethod Lib.objectInit) ∧ lw_tbl[am_poCode]? = some (Cond.code Lib.objectInit ⟨#[0xb1]⟩ 1 none) := by decide +kernel
theorem am_v_arr : lw_tbl[am_paInt]? = some (Cond.arrayClass .int) ∧ lw_tbl[am_paLong]? = some (Cond.arrayClass .long) ∧ lw_tbl[am_paNote]? = some (Cond.arrayOver (.object RX3)) ∧ lw_tbl[am_paII]? = some (Cond.arrayOver (.array .int)) := by decide +kernel
theorem am_v_ldc0 : am_ldcs.all (fun q => decide (lw_tbl[q.2.2]? = some (Cond.constant (am_cn q.1.1) q.1.2 (Int32.ofInt q.2.1))) && decide (-2147483648 ≤ q.2.1) && decide (q.2.1 < 2147483648)) = true := by decide +kernel
theorem am_v_ldc20 : am_ldc2s.all (fun q => decide (lw_tbl[q.2.2]? = some (Cond.constantLong (am_cn q.1.1) q.1.2 (Int64.ofInt q.2.1))) && decide (-9223372036854775808 ≤ q.2.1) && decide (q.2.1 < 9223372036854775808)) = true := by decide +kernel
/-- the sorts of fields agree with their types -/
def am_tyS (ty : FieldType) : Nat := match ty with
  | .int => 0
  | .long => 1
  | .boolean => 3
  | .object _ => 2
  | .array _ => 2
  | _ => 9
theorem am_v_tyS0 : (List.range 8).all (fun ci => (List.range (am_N ci)).all (fun j => decide (am_tyS (am_tyo ci j) = (am_fs ci j).1))) = true := by decide +kernel
theorem am_lookup {α β : Type} [BEq α] [LawfulBEq α] {l : List (α × β)} {a : α} {b : β} (h : l.lookup a = some b) : (a, b) ∈ l := by
  induction l with
  | nil => cases h
  | cons x t ih =>
    obtain ⟨x1, x2⟩ := x
    simp only [List.lookup] at h
    split at h
    · rename_i hx
      cases h
      rw [eq_of_beq hx]
      exact List.mem_cons_self
    · exact List.mem_cons_of_mem _ (ih h)
set_option maxRecDepth 20000 in
theorem am_vc0 : lw_tbl[69]? = some (Cond.code (am_y 0) (am_by 0) (am_ml 0) (am_rt 0)) := by rfl
set_option maxRecDepth 20000 in
theorem am_vc1 : lw_tbl[319]? = some (Cond.code (am_y 1) (am_by 1) (am_ml 1) (am_rt 1)) := by rfl
set_option maxRecDepth 20000 in
theorem am_vc2 : lw_tbl[425]? = some (Cond.code (am_y 2) (am_by 2) (am_ml 2) (am_rt 2)) := by rfl
set_option maxRecDepth 20000 in
theorem am_vc3 : lw_tbl[331]? = some (Cond.code (am_y 3) (am_by 3) (am_ml 3) (am_rt 3)) := by rfl
set_option maxRecDepth 20000 in
theorem am_vc4 : lw_tbl[433]? = some (Cond.code (am_y 4) (am_by 4) (am_ml 4) (am_rt 4)) := by rfl
set_option maxRecDepth 20000 in
theorem am_vc5 : lw_tbl[485]? = some (Cond.code (am_y 5) (am_by 5) (am_ml 5) (am_rt 5)) := by rfl
set_option maxRecDepth 20000 in
theorem am_vc6 : lw_tbl[501]? = some (Cond.code (am_y 6) (am_by 6) (am_ml 6) (am_rt 6)) := by rfl
set_option maxRecDepth 20000 in
theorem am_vc7 : lw_tbl[123]? = some (Cond.code (am_y 7) (am_by 7) (am_ml 7) (am_rt 7)) := by rfl
set_option maxRecDepth 20000 in
theorem am_vc8 : lw_tbl[493]? = some (Cond.code (am_y 8) (am_by 8) (am_ml 8) (am_rt 8)) := by rfl
set_option maxRecDepth 20000 in
theorem am_vc9 : lw_tbl[638]? = some (Cond.code (am_y 9) (am_by 9) (am_ml 9) (am_rt 9)) := by rfl
set_option maxRecDepth 20000 in
theorem am_vc10 : lw_tbl[522]? = some (Cond.code (am_y 10) (am_by 10) (am_ml 10) (am_rt 10)) := by rfl
set_option maxRecDepth 20000 in
theorem am_vc11 : lw_tbl[563]? = some (Cond.code (am_y 11) (am_by 11) (am_ml 11) (am_rt 11)) := by rfl
set_option maxRecDepth 20000 in
theorem am_vc12 : lw_tbl[693]? = some (Cond.code (am_y 12) (am_by 12) (am_ml 12) (am_rt 12)) := by rfl
set_option maxRecDepth 20000 in
theorem am_vc13 : lw_tbl[702]? = some (Cond.code (am_y 13) (am_by 13) (am_ml 13) (am_rt 13)) := by rfl
set_option maxRecDepth 20000 in
theorem am_vc14 : lw_tbl[642]? = some (Cond.code (am_y 14) (am_by 14) (am_ml 14) (am_rt 14)) := by rfl
set_option maxRecDepth 20000 in
theorem am_vc15 : lw_tbl[677]? = some (Cond.code (am_y 15) (am_by 15) (am_ml 15) (am_rt 15)) := by rfl
set_option maxRecDepth 20000 in
theorem am_vc16 : lw_tbl[673]? = some (Cond.code (am_y 16) (am_by 16) (am_ml 16) (am_rt 16)) := by rfl
set_option maxRecDepth 20000 in
theorem am_vc17 : lw_tbl[647]? = some (Cond.code (am_y 17) (am_by 17) (am_ml 17) (am_rt 17)) := by rfl
set_option maxRecDepth 20000 in
theorem am_vc18 : lw_tbl[652]? = some (Cond.code (am_y 18) (am_by 18) (am_ml 18) (am_rt 18)) := by rfl
set_option maxRecDepth 20000 in
theorem am_vc19 : lw_tbl[657]? = some (Cond.code (am_y 19) (am_by 19) (am_ml 19) (am_rt 19)) := by rfl
set_option maxRecDepth 20000 in
theorem am_vc20 : lw_tbl[662]? = some (Cond.code (am_y 20) (am_by 20) (am_ml 20) (am_rt 20)) := by rfl
set_option maxRecDepth 20000 in
theorem am_vc21 : lw_tbl[665]? = some (Cond.code (am_y 21) (am_by 21) (am_ml 21) (am_rt 21)) := by rfl
set_option maxRecDepth 20000 in
theorem am_vc22 : lw_tbl[155]? = some (Cond.code (am_y 22) (am_by 22) (am_ml 22) (am_rt 22)) := by rfl
set_option maxRecDepth 20000 in
theorem am_vc23 : lw_tbl[542]? = some (Cond.code (am_y 23) (am_by 23) (am_ml 23) (am_rt 23)) := by rfl
set_option maxRecDepth 20000 in
theorem am_vc24 : lw_tbl[546]? = some (Cond.code (am_y 24) (am_by 24) (am_ml 24) (am_rt 24)) := by rfl
set_option maxRecDepth 20000 in
theorem am_vc25 : lw_tbl[550]? = some (Cond.code (am_y 25) (am_by 25) (am_ml 25) (am_rt 25)) := by rfl
set_option maxRecDepth 20000 in
theorem am_vc26 : lw_tbl[555]? = some (Cond.code (am_y 26) (am_by 26) (am_ml 26) (am_rt 26)) := by rfl
set_option maxRecDepth 20000 in
theorem am_vc27 : lw_tbl[572]? = some (Cond.code (am_y 27) (am_by 27) (am_ml 27) (am_rt 27)) := by rfl
set_option maxRecDepth 20000 in
theorem am_vc28 : lw_tbl[597]? = some (Cond.code (am_y 28) (am_by 28) (am_ml 28) (am_rt 28)) := by rfl
set_option maxRecDepth 20000 in
theorem am_vc29 : lw_tbl[576]? = some (Cond.code (am_y 29) (am_by 29) (am_ml 29) (am_rt 29)) := by rfl
set_option maxRecDepth 20000 in
theorem am_vc30 : lw_tbl[580]? = some (Cond.code (am_y 30) (am_by 30) (am_ml 30) (am_rt 30)) := by rfl
set_option maxRecDepth 20000 in
theorem am_vc31 : lw_tbl[593]? = some (Cond.code (am_y 31) (am_by 31) (am_ml 31) (am_rt 31)) := by rfl
set_option maxRecDepth 20000 in
theorem am_vc32 : lw_tbl[343]? = some (Cond.code (am_y 32) (am_by 32) (am_ml 32) (am_rt 32)) := by rfl
set_option maxRecDepth 20000 in
theorem am_vc33 : lw_tbl[465]? = some (Cond.code (am_y 33) (am_by 33) (am_ml 33) (am_rt 33)) := by rfl
set_option maxRecDepth 20000 in
theorem am_vc34 : lw_tbl[559]? = some (Cond.code (am_y 34) (am_by 34) (am_ml 34) (am_rt 34)) := by rfl
set_option maxRecDepth 20000 in
theorem am_vc35 : lw_tbl[441]? = some (Cond.code (am_y 35) (am_by 35) (am_ml 35) (am_rt 35)) := by rfl
set_option maxRecDepth 20000 in
theorem am_vc36 : lw_tbl[445]? = some (Cond.code (am_y 36) (am_by 36) (am_ml 36) (am_rt 36)) := by rfl
set_option maxRecDepth 20000 in
theorem am_vc37 : lw_tbl[131]? = some (Cond.code (am_y 37) (am_by 37) (am_ml 37) (am_rt 37)) := by rfl
set_option maxRecDepth 20000 in
theorem am_vc38 : lw_tbl[497]? = some (Cond.code (am_y 38) (am_by 38) (am_ml 38) (am_rt 38)) := by rfl
set_option maxRecDepth 20000 in
theorem am_vc39 : lw_tbl[506]? = some (Cond.code (am_y 39) (am_by 39) (am_ml 39) (am_rt 39)) := by rfl
set_option maxRecDepth 20000 in
theorem am_vc40 : lw_tbl[149]? = some (Cond.code (am_y 40) (am_by 40) (am_ml 40) (am_rt 40)) := by rfl
set_option maxRecDepth 20000 in
theorem am_vc41 : lw_tbl[510]? = some (Cond.code (am_y 41) (am_by 41) (am_ml 41) (am_rt 41)) := by rfl
set_option maxRecDepth 20000 in
theorem am_vc42 : lw_tbl[518]? = some (Cond.code (am_y 42) (am_by 42) (am_ml 42) (am_rt 42)) := by rfl
set_option maxRecDepth 20000 in
theorem am_vc43 : lw_tbl[514]? = some (Cond.code (am_y 43) (am_by 43) (am_ml 43) (am_rt 43)) := by rfl
set_option maxRecDepth 20000 in
theorem am_vc44 : lw_tbl[526]? = some (Cond.code (am_y 44) (am_by 44) (am_ml 44) (am_rt 44)) := by rfl
set_option maxRecDepth 20000 in
theorem am_vc45 : lw_tbl[530]? = some (Cond.code (am_y 45) (am_by 45) (am_ml 45) (am_rt 45)) := by rfl
set_option maxRecDepth 20000 in
theorem am_vc46 : lw_tbl[534]? = some (Cond.code (am_y 46) (am_by 46) (am_ml 46) (am_rt 46)) := by rfl
set_option maxRecDepth 20000 in
theorem am_vc47 : lw_tbl[538]? = some (Cond.code (am_y 47) (am_by 47) (am_ml 47) (am_rt 47)) := by rfl
set_option maxRecDepth 20000 in
theorem am_vc48 : lw_tbl[567]? = some (Cond.code (am_y 48) (am_by 48) (am_ml 48) (am_rt 48)) := by rfl
set_option maxRecDepth 20000 in
theorem am_vc49 : lw_tbl[61]? = some (Cond.code (am_y 49) (am_by 49) (am_ml 49) (am_rt 49)) := by rfl
set_option maxRecDepth 20000 in
theorem am_vc50 : lw_tbl[289]? = some (Cond.code (am_y 50) (am_by 50) (am_ml 50) (am_rt 50)) := by rfl
set_option maxRecDepth 20000 in
theorem am_vc51 : lw_tbl[293]? = some (Cond.code (am_y 51) (am_by 51) (am_ml 51) (am_rt 51)) := by rfl
set_option maxRecDepth 20000 in
theorem am_vc52 : lw_tbl[308]? = some (Cond.code (am_y 52) (am_by 52) (am_ml 52) (am_rt 52)) := by rfl
set_option maxRecDepth 20000 in
theorem am_vc53 : lw_tbl[327]? = some (Cond.code (am_y 53) (am_by 53) (am_ml 53) (am_rt 53)) := by rfl
set_option maxRecDepth 20000 in
theorem am_vc54 : lw_tbl[335]? = some (Cond.code (am_y 54) (am_by 54) (am_ml 54) (am_rt 54)) := by rfl
set_option maxRecDepth 20000 in
theorem am_vc55 : lw_tbl[429]? = some (Cond.code (am_y 55) (am_by 55) (am_ml 55) (am_rt 55)) := by rfl
set_option maxRecDepth 20000 in
theorem am_vc56 : lw_tbl[437]? = some (Cond.code (am_y 56) (am_by 56) (am_ml 56) (am_rt 56)) := by rfl
set_option maxRecDepth 20000 in
theorem am_vc57 : lw_tbl[449]? = some (Cond.code (am_y 57) (am_by 57) (am_ml 57) (am_rt 57)) := by rfl
set_option maxRecDepth 20000 in
theorem am_vc58 : lw_tbl[453]? = some (Cond.code (am_y 58) (am_by 58) (am_ml 58) (am_rt 58)) := by rfl
set_option maxRecDepth 20000 in
theorem am_vc59 : lw_tbl[457]? = some (Cond.code (am_y 59) (am_by 59) (am_ml 59) (am_rt 59)) := by rfl
set_option maxRecDepth 20000 in
theorem am_vc60 : lw_tbl[461]? = some (Cond.code (am_y 60) (am_by 60) (am_ml 60) (am_rt 60)) := by rfl
set_option maxRecDepth 20000 in
theorem am_vc61 : lw_tbl[469]? = some (Cond.code (am_y 61) (am_by 61) (am_ml 61) (am_rt 61)) := by rfl
set_option maxRecDepth 20000 in
theorem am_vc62 : lw_tbl[473]? = some (Cond.code (am_y 62) (am_by 62) (am_ml 62) (am_rt 62)) := by rfl
set_option maxRecDepth 20000 in
theorem am_vc63 : lw_tbl[477]? = some (Cond.code (am_y 63) (am_by 63) (am_ml 63) (am_rt 63)) := by rfl
set_option maxRecDepth 20000 in
theorem am_vc64 : lw_tbl[481]? = some (Cond.code (am_y 64) (am_by 64) (am_ml 64) (am_rt 64)) := by rfl
set_option maxRecDepth 20000 in
theorem am_vc65 : lw_tbl[489]? = some (Cond.code (am_y 65) (am_by 65) (am_ml 65) (am_rt 65)) := by rfl
set_option maxRecDepth 20000 in
theorem am_vc66 : lw_tbl[602]? = some (Cond.code (am_y 66) (am_by 66) (am_ml 66) (am_rt 66)) := by rfl
set_option maxRecDepth 20000 in
theorem am_vc67 : lw_tbl[610]? = some (Cond.code (am_y 67) (am_by 67) (am_ml 67) (am_rt 67)) := by rfl
set_option maxRecDepth 20000 in
theorem am_vc68 : lw_tbl[614]? = some (Cond.code (am_y 68) (am_by 68) (am_ml 68) (am_rt 68)) := by rfl
set_option maxRecDepth 20000 in
theorem am_vc69 : lw_tbl[622]? = some (Cond.code (am_y 69) (am_by 69) (am_ml 69) (am_rt 69)) := by rfl
set_option maxRecDepth 20000 in
theorem am_vc70 : lw_tbl[626]? = some (Cond.code (am_y 70) (am_by 70) (am_ml 70) (am_rt 70)) := by rfl
set_option maxRecDepth 20000 in
theorem am_vc71 : lw_tbl[630]? = some (Cond.code (am_y 71) (am_by 71) (am_ml 71) (am_rt 71)) := by rfl
set_option maxRecDepth 20000 in
theorem am_vc72 : lw_tbl[669]? = some (Cond.code (am_y 72) (am_by 72) (am_ml 72) (am_rt 72)) := by rfl
set_option maxRecDepth 20000 in
theorem am_vc73 : lw_tbl[681]? = some (Cond.code (am_y 73) (am_by 73) (am_ml 73) (am_rt 73)) := by rfl
set_option maxRecDepth 20000 in
theorem am_vc74 : lw_tbl[689]? = some (Cond.code (am_y 74) (am_by 74) (am_ml 74) (am_rt 74)) := by rfl
set_option maxRecDepth 20000 in
theorem am_vc75 : lw_tbl[698]? = some (Cond.code (am_y 75) (am_by 75) (am_ml 75) (am_rt 75)) := by rfl
set_option maxRecDepth 20000 in
theorem am_vc76 : lw_tbl[606]? = some (Cond.code (am_y 76) (am_by 76) (am_ml 76) (am_rt 76)) := by rfl
set_option maxRecDepth 20000 in
theorem am_vc77 : lw_tbl[618]? = some (Cond.code (am_y 77) (am_by 77) (am_ml 77) (am_rt 77)) := by rfl
set_option maxRecDepth 20000 in
theorem am_vc78 : lw_tbl[685]? = some (Cond.code (am_y 78) (am_by 78) (am_ml 78) (am_rt 78)) := by rfl
set_option maxRecDepth 20000 in
theorem am_vc79 : lw_tbl[634]? = some (Cond.code (am_y 79) (am_by 79) (am_ml 79) (am_rt 79)) := by rfl
set_option maxRecDepth 20000 in
theorem am_vc80 : lw_tbl[304]? = some (Cond.code (am_y 80) (am_by 80) (am_ml 80) (am_rt 80)) := by rfl
set_option maxRecDepth 20000 in
theorem am_vc81 : lw_tbl[300]? = some (Cond.code (am_y 81) (am_by 81) (am_ml 81) (am_rt 81)) := by rfl
set_option maxRecDepth 20000 in
theorem am_vc82 : lw_tbl[323]? = some (Cond.code (am_y 82) (am_by 82) (am_ml 82) (am_rt 82)) := by rfl
set_option maxRecDepth 20000 in
theorem am_vc83 : lw_tbl[315]? = some (Cond.code (am_y 83) (am_by 83) (am_ml 83) (am_rt 83)) := by rfl
set_option maxRecDepth 20000 in
theorem am_vc84 : lw_tbl[296]? = some (Cond.code (am_y 84) (am_by 84) (am_ml 84) (am_rt 84)) := by rfl
set_option maxRecDepth 20000 in
theorem am_vc85 : lw_tbl[311]? = some (Cond.code (am_y 85) (am_by 85) (am_ml 85) (am_rt 85)) := by rfl
set_option maxRecDepth 20000 in
theorem am_vc86 : lw_tbl[338]? = some (Cond.code (am_y 86) (am_by 86) (am_ml 86) (am_rt 86)) := by rfl
set_option maxRecDepth 20000 in
theorem am_vc87 : lw_tbl[707]? = some (Cond.code (am_y 87) (am_by 87) (am_ml 87) (am_rt 87)) := by rfl
set_option maxRecDepth 20000 in
theorem am_vc88 : lw_tbl[855]? = some (Cond.code (am_y 88) (am_by 88) (am_ml 88) (am_rt 88)) := by rfl
set_option maxRecDepth 20000 in
theorem am_vc89 : lw_tbl[875]? = some (Cond.code (am_y 89) (am_by 89) (am_ml 89) (am_rt 89)) := by rfl
set_option maxRecDepth 20000 in
theorem am_vc90 : lw_tbl[863]? = some (Cond.code (am_y 90) (am_by 90) (am_ml 90) (am_rt 90)) := by rfl
set_option maxRecDepth 20000 in
theorem am_vc91 : lw_tbl[867]? = some (Cond.code (am_y 91) (am_by 91) (am_ml 91) (am_rt 91)) := by rfl
set_option maxRecDepth 20000 in
theorem am_vc92 : lw_tbl[883]? = some (Cond.code (am_y 92) (am_by 92) (am_ml 92) (am_rt 92)) := by rfl
set_option maxRecDepth 20000 in
theorem am_vc93 : lw_tbl[895]? = some (Cond.code (am_y 93) (am_by 93) (am_ml 93) (am_rt 93)) := by rfl
set_option maxRecDepth 20000 in
theorem am_vc94 : lw_tbl[859]? = some (Cond.code (am_y 94) (am_by 94) (am_ml 94) (am_rt 94)) := by rfl
set_option maxRecDepth 20000 in
theorem am_vc95 : lw_tbl[871]? = some (Cond.code (am_y 95) (am_by 95) (am_ml 95) (am_rt 95)) := by rfl
set_option maxRecDepth 20000 in
theorem am_vc96 : lw_tbl[879]? = some (Cond.code (am_y 96) (am_by 96) (am_ml 96) (am_rt 96)) := by rfl
set_option maxRecDepth 20000 in
theorem am_vc97 : lw_tbl[887]? = some (Cond.code (am_y 97) (am_by 97) (am_ml 97) (am_rt 97)) := by rfl
set_option maxRecDepth 20000 in
theorem am_vc98 : lw_tbl[891]? = some (Cond.code (am_y 98) (am_by 98) (am_ml 98) (am_rt 98)) := by rfl
set_option maxRecDepth 20000 in
theorem am_vc99 : lw_tbl[899]? = some (Cond.code (am_y 99) (am_by 99) (am_ml 99) (am_rt 99)) := by rfl
set_option maxRecDepth 20000 in
theorem am_vc100 : lw_tbl[903]? = some (Cond.code (am_y 100) (am_by 100) (am_ml 100) (am_rt 100)) := by rfl
set_option maxRecDepth 20000 in
theorem am_vc101 : lw_tbl[907]? = some (Cond.code (am_y 101) (am_by 101) (am_ml 101) (am_rt 101)) := by rfl
set_option maxRecDepth 20000 in
theorem am_vc102 : lw_tbl[911]? = some (Cond.code (am_y 102) (am_by 102) (am_ml 102) (am_rt 102)) := by rfl
set_option maxRecDepth 20000 in
theorem am_vc103 : lw_tbl[915]? = some (Cond.code (am_y 103) (am_by 103) (am_ml 103) (am_rt 103)) := by rfl
set_option maxRecDepth 20000 in
theorem am_vc104 : lw_tbl[919]? = some (Cond.code (am_y 104) (am_by 104) (am_ml 104) (am_rt 104)) := by rfl
set_option maxRecDepth 20000 in
theorem am_vc105 : lw_tbl[923]? = some (Cond.code (am_y 105) (am_by 105) (am_ml 105) (am_rt 105)) := by rfl
set_option maxRecDepth 20000 in
theorem am_vc106 : lw_tbl[927]? = some (Cond.code (am_y 106) (am_by 106) (am_ml 106) (am_rt 106)) := by rfl
set_option maxRecDepth 20000 in
theorem am_vc107 : lw_tbl[939]? = some (Cond.code (am_y 107) (am_by 107) (am_ml 107) (am_rt 107)) := by rfl
set_option maxRecDepth 20000 in
theorem am_vc108 : lw_tbl[935]? = some (Cond.code (am_y 108) (am_by 108) (am_ml 108) (am_rt 108)) := by rfl
set_option maxRecDepth 20000 in
theorem am_vc109 : lw_tbl[931]? = some (Cond.code (am_y 109) (am_by 109) (am_ml 109) (am_rt 109)) := by rfl
set_option maxRecDepth 20000 in
theorem am_vc110 : lw_tbl[959]? = some (Cond.code (am_y 110) (am_by 110) (am_ml 110) (am_rt 110)) := by rfl
set_option maxRecDepth 20000 in
theorem am_vc111 : lw_tbl[963]? = some (Cond.code (am_y 111) (am_by 111) (am_ml 111) (am_rt 111)) := by rfl
set_option maxRecDepth 20000 in
theorem am_vc112 : lw_tbl[971]? = some (Cond.code (am_y 112) (am_by 112) (am_ml 112) (am_rt 112)) := by rfl
set_option maxRecDepth 20000 in
theorem am_vc113 : lw_tbl[975]? = some (Cond.code (am_y 113) (am_by 113) (am_ml 113) (am_rt 113)) := by rfl
set_option maxRecDepth 20000 in
theorem am_vc114 : lw_tbl[983]? = some (Cond.code (am_y 114) (am_by 114) (am_ml 114) (am_rt 114)) := by rfl
set_option maxRecDepth 20000 in
theorem am_vc115 : lw_tbl[979]? = some (Cond.code (am_y 115) (am_by 115) (am_ml 115) (am_rt 115)) := by rfl
set_option maxRecDepth 20000 in
theorem am_vc116 : lw_tbl[955]? = some (Cond.code (am_y 116) (am_by 116) (am_ml 116) (am_rt 116)) := by rfl
set_option maxRecDepth 20000 in
theorem am_vc117 : lw_tbl[967]? = some (Cond.code (am_y 117) (am_by 117) (am_ml 117) (am_rt 117)) := by rfl
set_option maxRecDepth 20000 in
theorem am_vc118 : lw_tbl[992]? = some (Cond.code (am_y 118) (am_by 118) (am_ml 118) (am_rt 118)) := by rfl
set_option maxRecDepth 20000 in
theorem am_vc119 : lw_tbl[996]? = some (Cond.code (am_y 119) (am_by 119) (am_ml 119) (am_rt 119)) := by rfl
set_option maxRecDepth 20000 in
theorem am_vc120 : lw_tbl[987]? = some (Cond.code (am_y 120) (am_by 120) (am_ml 120) (am_rt 120)) := by rfl
set_option maxRecDepth 20000 in
theorem am_vc121 : lw_tbl[1004]? = some (Cond.code (am_y 121) (am_by 121) (am_ml 121) (am_rt 121)) := by rfl
set_option maxRecDepth 20000 in
theorem am_vc122 : lw_tbl[1008]? = some (Cond.code (am_y 122) (am_by 122) (am_ml 122) (am_rt 122)) := by rfl
set_option maxRecDepth 20000 in
theorem am_vc123 : lw_tbl[951]? = some (Cond.code (am_y 123) (am_by 123) (am_ml 123) (am_rt 123)) := by rfl
set_option maxRecDepth 20000 in
theorem am_vc124 : lw_tbl[947]? = some (Cond.code (am_y 124) (am_by 124) (am_ml 124) (am_rt 124)) := by rfl
set_option maxRecDepth 20000 in
theorem am_vc125 : lw_tbl[943]? = some (Cond.code (am_y 125) (am_by 125) (am_ml 125) (am_rt 125)) := by rfl
set_option maxRecDepth 20000 in
theorem am_vc126 : lw_tbl[1012]? = some (Cond.code (am_y 126) (am_by 126) (am_ml 126) (am_rt 126)) := by rfl
set_option maxRecDepth 20000 in
theorem am_vc127 : lw_tbl[1016]? = some (Cond.code (am_y 127) (am_by 127) (am_ml 127) (am_rt 127)) := by rfl
set_option maxRecDepth 20000 in
theorem am_vc128 : lw_tbl[1024]? = some (Cond.code (am_y 128) (am_by 128) (am_ml 128) (am_rt 128)) := by rfl
set_option maxRecDepth 20000 in
theorem am_vc129 : lw_tbl[1020]? = some (Cond.code (am_y 129) (am_by 129) (am_ml 129) (am_rt 129)) := by rfl
set_option maxRecDepth 20000 in
theorem am_vc130 : lw_tbl[1028]? = some (Cond.code (am_y 130) (am_by 130) (am_ml 130) (am_rt 130)) := by rfl
set_option maxRecDepth 20000 in
theorem am_vc131 : lw_tbl[1032]? = some (Cond.code (am_y 131) (am_by 131) (am_ml 131) (am_rt 131)) := by rfl
set_option maxRecDepth 20000 in
theorem am_vc132 : lw_tbl[1044]? = some (Cond.code (am_y 132) (am_by 132) (am_ml 132) (am_rt 132)) := by rfl
set_option maxRecDepth 20000 in
theorem am_vc133 : lw_tbl[1050]? = some (Cond.code (am_y 133) (am_by 133) (am_ml 133) (am_rt 133)) := by rfl
set_option maxRecDepth 20000 in
theorem am_vc134 : lw_tbl[1040]? = some (Cond.code (am_y 134) (am_by 134) (am_ml 134) (am_rt 134)) := by rfl
set_option maxRecDepth 20000 in
theorem am_vc135 : lw_tbl[1036]? = some (Cond.code (am_y 135) (am_by 135) (am_ml 135) (am_rt 135)) := by rfl
set_option maxRecDepth 20000 in
theorem am_vc136 : lw_tbl[1054]? = some (Cond.code (am_y 136) (am_by 136) (am_ml 136) (am_rt 136)) := by rfl
set_option maxRecDepth 20000 in
theorem am_vc137 : lw_tbl[1058]? = some (Cond.code (am_y 137) (am_by 137) (am_ml 137) (am_rt 137)) := by rfl
set_option maxRecDepth 20000 in
theorem am_vc138 : lw_tbl[1062]? = some (Cond.code (am_y 138) (am_by 138) (am_ml 138) (am_rt 138)) := by rfl
set_option maxRecDepth 20000 in
theorem am_vc139 : lw_tbl[1066]? = some (Cond.code (am_y 139) (am_by 139) (am_ml 139) (am_rt 139)) := by rfl
theorem am_v_code : ∀ {k : Nat}, k < 140 → Cond.code (am_y k) (am_by k) (am_ml k) (am_rt k) ∈ am_tb := by
  intro k hk
  match k, hk with
  | 0, _ => exact am_mem am_vc0 rfl
  | 1, _ => exact am_mem am_vc1 rfl
  | 2, _ => exact am_mem am_vc2 rfl
  | 3, _ => exact am_mem am_vc3 rfl
  | 4, _ => exact am_mem am_vc4 rfl
  | 5, _ => exact am_mem am_vc5 rfl
  | 6, _ => exact am_mem am_vc6 rfl
  | 7, _ => exact am_mem am_vc7 rfl
  | 8, _ => exact am_mem am_vc8 rfl
  | 9, _ => exact am_mem am_vc9 rfl
  | 10, _ => exact am_mem am_vc10 rfl
  | 11, _ => exact am_mem am_vc11 rfl
  | 12, _ => exact am_mem am_vc12 rfl
  | 13, _ => exact am_mem am_vc13 rfl
  | 14, _ => exact am_mem am_vc14 rfl
  | 15, _ => exact am_mem am_vc15 rfl
  | 16, _ => exact am_mem am_vc16 rfl
  | 17, _ => exact am_mem am_vc17 rfl
  | 18, _ => exact am_mem am_vc18 rfl
  | 19, _ => exact am_mem am_vc19 rfl
  | 20, _ => exact am_mem am_vc20 rfl
  | 21, _ => exact am_mem am_vc21 rfl
  | 22, _ => exact am_mem am_vc22 rfl
  | 23, _ => exact am_mem am_vc23 rfl
  | 24, _ => exact am_mem am_vc24 rfl
  | 25, _ => exact am_mem am_vc25 rfl
  | 26, _ => exact am_mem am_vc26 rfl
  | 27, _ => exact am_mem am_vc27 rfl
  | 28, _ => exact am_mem am_vc28 rfl
  | 29, _ => exact am_mem am_vc29 rfl
  | 30, _ => exact am_mem am_vc30 rfl
  | 31, _ => exact am_mem am_vc31 rfl
  | 32, _ => exact am_mem am_vc32 rfl
  | 33, _ => exact am_mem am_vc33 rfl
  | 34, _ => exact am_mem am_vc34 rfl
  | 35, _ => exact am_mem am_vc35 rfl
  | 36, _ => exact am_mem am_vc36 rfl
  | 37, _ => exact am_mem am_vc37 rfl
  | 38, _ => exact am_mem am_vc38 rfl
  | 39, _ => exact am_mem am_vc39 rfl
  | 40, _ => exact am_mem am_vc40 rfl
  | 41, _ => exact am_mem am_vc41 rfl
  | 42, _ => exact am_mem am_vc42 rfl
  | 43, _ => exact am_mem am_vc43 rfl
  | 44, _ => exact am_mem am_vc44 rfl
  | 45, _ => exact am_mem am_vc45 rfl
  | 46, _ => exact am_mem am_vc46 rfl
  | 47, _ => exact am_mem am_vc47 rfl
  | 48, _ => exact am_mem am_vc48 rfl
  | 49, _ => exact am_mem am_vc49 rfl
  | 50, _ => exact am_mem am_vc50 rfl
  | 51, _ => exact am_mem am_vc51 rfl
  | 52, _ => exact am_mem am_vc52 rfl
  | 53, _ => exact am_mem am_vc53 rfl
  | 54, _ => exact am_mem am_vc54 rfl
  | 55, _ => exact am_mem am_vc55 rfl
  | 56, _ => exact am_mem am_vc56 rfl
  | 57, _ => exact am_mem am_vc57 rfl
  | 58, _ => exact am_mem am_vc58 rfl
  | 59, _ => exact am_mem am_vc59 rfl
  | 60, _ => exact am_mem am_vc60 rfl
  | 61, _ => exact am_mem am_vc61 rfl
  | 62, _ => exact am_mem am_vc62 rfl
  | 63, _ => exact am_mem am_vc63 rfl
  | 64, _ => exact am_mem am_vc64 rfl
  | 65, _ => exact am_mem am_vc65 rfl
  | 66, _ => exact am_mem am_vc66 rfl
  | 67, _ => exact am_mem am_vc67 rfl
  | 68, _ => exact am_mem am_vc68 rfl
  | 69, _ => exact am_mem am_vc69 rfl
  | 70, _ => exact am_mem am_vc70 rfl
  | 71, _ => exact am_mem am_vc71 rfl
  | 72, _ => exact am_mem am_vc72 rfl
  | 73, _ => exact am_mem am_vc73 rfl
  | 74, _ => exact am_mem am_vc74 rfl
  | 75, _ => exact am_mem am_vc75 rfl
  | 76, _ => exact am_mem am_vc76 rfl
  | 77, _ => exact am_mem am_vc77 rfl
  | 78, _ => exact am_mem am_vc78 rfl
  | 79, _ => exact am_mem am_vc79 rfl
  | 80, _ => exact am_mem am_vc80 rfl
  | 81, _ => exact am_mem am_vc81 rfl
  | 82, _ => exact am_mem am_vc82 rfl
  | 83, _ => exact am_mem am_vc83 rfl
  | 84, _ => exact am_mem am_vc84 rfl
  | 85, _ => exact am_mem am_vc85 rfl
  | 86, _ => exact am_mem am_vc86 rfl
  | 87, _ => exact am_mem am_vc87 rfl
  | 88, _ => exact am_mem am_vc88 rfl
  | 89, _ => exact am_mem am_vc89 rfl
  | 90, _ => exact am_mem am_vc90 rfl
  | 91, _ => exact am_mem am_vc91 rfl
  | 92, _ => exact am_mem am_vc92 rfl
  | 93, _ => exact am_mem am_vc93 rfl
  | 94, _ => exact am_mem am_vc94 rfl
  | 95, _ => exact am_mem am_vc95 rfl
  | 96, _ => exact am_mem am_vc96 rfl
  | 97, _ => exact am_mem am_vc97 rfl
  | 98, _ => exact am_mem am_vc98 rfl
  | 99, _ => exact am_mem am_vc99 rfl
  | 100, _ => exact am_mem am_vc100 rfl
  | 101, _ => exact am_mem am_vc101 rfl
  | 102, _ => exact am_mem am_vc102 rfl
  | 103, _ => exact am_mem am_vc103 rfl
  | 104, _ => exact am_mem am_vc104 rfl
  | 105, _ => exact am_mem am_vc105 rfl
  | 106, _ => exact am_mem am_vc106 rfl
  | 107, _ => exact am_mem am_vc107 rfl
  | 108, _ => exact am_mem am_vc108 rfl
  | 109, _ => exact am_mem am_vc109 rfl
  | 110, _ => exact am_mem am_vc110 rfl
  | 111, _ => exact am_mem am_vc111 rfl
  | 112, _ => exact am_mem am_vc112 rfl
  | 113, _ => exact am_mem am_vc113 rfl
  | 114, _ => exact am_mem am_vc114 rfl
  | 115, _ => exact am_mem am_vc115 rfl
  | 116, _ => exact am_mem am_vc116 rfl
  | 117, _ => exact am_mem am_vc117 rfl
  | 118, _ => exact am_mem am_vc118 rfl
  | 119, _ => exact am_mem am_vc119 rfl
  | 120, _ => exact am_mem am_vc120 rfl
  | 121, _ => exact am_mem am_vc121 rfl
  | 122, _ => exact am_mem am_vc122 rfl
  | 123, _ => exact am_mem am_vc123 rfl
  | 124, _ => exact am_mem am_vc124 rfl
  | 125, _ => exact am_mem am_vc125 rfl
  | 126, _ => exact am_mem am_vc126 rfl
  | 127, _ => exact am_mem am_vc127 rfl
  | 128, _ => exact am_mem am_vc128 rfl
  | 129, _ => exact am_mem am_vc129 rfl
  | 130, _ => exact am_mem am_vc130 rfl
  | 131, _ => exact am_mem am_vc131 rfl
  | 132, _ => exact am_mem am_vc132 rfl
  | 133, _ => exact am_mem am_vc133 rfl
  | 134, _ => exact am_mem am_vc134 rfl
  | 135, _ => exact am_mem am_vc135 rfl
  | 136, _ => exact am_mem am_vc136 rfl
  | 137, _ => exact am_mem am_vc137 rfl
  | 138, _ => exact am_mem am_vc138 rfl
  | 139, _ => exact am_mem am_vc139 rfl
  | n + 140, h => exact absurd h (by omega)
theorem am_v_math : am_mps.length = 4 ∧ lw_tbl[(am_mps.getD 0 (0, 0)).1]? = some (Cond.static Lib.Math.abs.name) ∧ lw_tbl[(am_mps.getD 1 (0, 0)).1]? = some (Cond.static Lib.Math.max.name) ∧ lw_tbl[(am_mps.getD 2 (0, 0)).1]? = some (Cond.static Lib.Math.min.name) ∧ lw_tbl[(am_mps.getD 3 (0, 0)).1]? = some (Cond.static Lib.MathLoose.min_long.x) := by decide +kernel
theorem am_v_mathc : lw_tbl[(am_mps.getD 0 (0, 0)).2]? = some (Cond.code Lib.Math.abs.name Lib.Math.abs.code 1 (some .int)) ∧ lw_tbl[(am_mps.getD 1 (0, 0)).2]? = some (Cond.code Lib.Math.max.name Lib.Math.max.code 2 (some .int)) ∧ lw_tbl[(am_mps.getD 2 (0, 0)).2]? = some (Cond.code Lib.Math.min.name Lib.Math.min.code 2 (some .int)) ∧ lw_tbl[(am_mps.getD 3 (0, 0)).2]? = some (Cond.code Lib.MathLoose.min_long.x Lib.MathLoose.min_long.code 4 (some .long)) := by decide +kernel
theorem am_v_mts0 : am_mts.all (fun q => decide (lw_tbl[q.2.2]? = some (Cond.methodLink (am_cn q.1.1) q.1.2 (if q.2.1 = 0 then Lib.Math.abs.name else if q.2.1 = 1 then Lib.Math.max.name else if q.2.1 = 2 then Lib.Math.min.name else Lib.MathLoose.min_long.x)))) = true := by decide +kernel

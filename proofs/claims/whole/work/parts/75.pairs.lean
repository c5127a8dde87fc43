/-! questions: both answer alike -/
theorem fq_u {ft : am_M → Int} {vl : am_M → Int → Prop} {m m' : am_M} {x x' s s' : Int} (hft : ft m = ft m') (hvl : ft m = 0 → vl m x → vl m' x' → x = x') (h : Fq ft vl m x s) (h' : Fq ft vl m' x' s') : x = x' ∧ s = s' := by
  rcases h with ⟨a1, a2, a3⟩ | ⟨a1, a2, a3⟩ <;> rcases h' with ⟨b1, b2, b3⟩ | ⟨b1, b2, b3⟩
  · exact ⟨by omega, by omega⟩
  · omega
  · omega
  · exact ⟨hvl a1 a2 b2, by omega⟩
theorem ft_e {m g : am_M} (hb : BE m g) (h22 : g 32 22 = m 32 22) : ft_pages g = ft_pages m := by unfold ft_pages; rw [h22]
theorem f_ln_e {m g : am_M} (hb : BE m g) (h22 : g 32 22 = m 32 22) (l : Int) : f_ln l g = f_ln l m := by unfold f_ln; rw [h22, hb.1 7 (by decide) (by decide)]
theorem f_nt_e {m g : am_M} (hb : BE m g) (h22 : g 32 22 = m 32 22) (k : Int) : f_nt k g = f_nt k m := by unfold f_nt; rw [h22, hb.1 8 (by decide) (by decide), hb.1 5 (by decide) (by decide), hb.2 38 k (by decide) (by decide)]
theorem f_pg_e {m g : am_M} (h22 : g 32 22 = m 32 22) (h23 : g 32 23 = m 32 23) (p : Int) : f_pg p g = f_pg p m := by unfold f_pg; rw [h22, h23]
theorem md_mv_cg {m g : am_M} : ∀ {l : List Int}, (∀ k ∈ l, g 52 k = m 52 k ∧ g 49 (g 34 k) = m 49 (m 34 k)) → md_mv g l = md_mv m l := by
  intro l
  induction l with
  | nil => intro _; rfl
  | cons k l ih =>
    intro h
    obtain ⟨h1, h2⟩ := h k List.mem_cons_self
    unfold md_mv
    rw [h1, h2, ih (fun z hz => h z (List.mem_cons_of_mem _ hz))]
theorem md_rn_cg {m g : am_M} {s gp : Int} : ∀ {l : List Int} {near : Int}, (∀ k ∈ l, g 51 k = m 51 k ∧ g 52 k = m 52 k ∧ g 53 k = m 53 k) → md_rn g s gp near l = md_rn m s gp near l := by
  intro l
  induction l with
  | nil => intro near _; rfl
  | cons k l ih =>
    intro near h
    obtain ⟨h1, h2, h3⟩ := h k List.mem_cons_self
    have ih' : ∀ near, md_rn g s gp near l = md_rn m s gp near l := fun near => ih (fun z hz => h z (List.mem_cons_of_mem _ hz))
    unfold md_rn
    rw [h1, h2, h3, ih', ih']
/-- the notes of a page are among all -/
theorem MS.sub {m : am_M} (hB : Bk m) (hM : MS m) {p : Int} (p0 : 0 ≤ p) (p1 : p < m 32 23) : ∀ k ∈ md_hr m (m 45 p) (m 46 p).toNat, k ∈ md_hr m 0 (m 32 7).toNat ∧ 0 ≤ m 34 k ∧ m 34 k < m 32 7 := fun k hk => by
  have h1 := md_hr_iff.mp hk
  have h2 := (hM.1.2.2.1 p p0 p1).2.1
  exact ⟨md_hr_iff.mpr ⟨h1.1, by omega, h1.2.2⟩, by omega, by omega⟩
theorem pr_pages {n : Nat} {μ : am_M} (hJ : J n μ) : Prx 65 125 [] n μ := by
  refine Prx.q hJ (qc_pages hJ) (fun μ1 _ a b c d => qm_pages a b c d) ?_
  intro m m' x x' s s' hb hb' h1 h2 f1 f2
  have hbm : BE m m' := hb.symm.trans hb'
  obtain ⟨u1, u2, -⟩ := MS_all (hJ.2.1.tr hb) hbm h1 h2
  exact fq_u (ft_e hbm u2).symm (fun _ z1 z2 => by unfold vl_pages at z1 z2; rw [z1, z2, u1]) f1 f2
theorem pr_pageOf {n : Nat} {μ : am_M} (l : Int) (hJ : J n μ) : Prx 66 126 [(0, l)] n μ := by
  refine Prx.q hJ (qc_pageOf l hJ) (fun μ1 _ a b c d => qm_pageOf a b c d l) ?_
  intro m m' x x' s s' hb hb' h1 h2 f1 f2
  have hbm : BE m m' := hb.symm.trans hb'
  obtain ⟨u1, u2, u3, u4, u5⟩ := MS_all (hJ.2.1.tr hb) hbm h1 h2
  refine fq_u (f_ln_e hbm u2 l).symm (fun z0 z1 z2 => ?_) f1 f2
  obtain ⟨hll, h22⟩ := f_ln0 h1 z0
  unfold vl_pageOf at z1 z2
  rw [z1, z2, ((u5 h22).1 l hll.1 hll.2).2]
theorem pr_top {n : Nat} {μ : am_M} (l : Int) (hJ : J n μ) : Prx 67 127 [(0, l)] n μ := by
  refine Prx.q hJ (qc_top l hJ) (fun μ1 _ a b c d => qm_top a b c d l) ?_
  intro m m' x x' s s' hb hb' h1 h2 f1 f2
  have hbm : BE m m' := hb.symm.trans hb'
  obtain ⟨u1, u2, u3, u4, u5⟩ := MS_all (hJ.2.1.tr hb) hbm h1 h2
  refine fq_u (f_ln_e hbm u2 l).symm (fun z0 z1 z2 => ?_) f1 f2
  obtain ⟨hll, h22⟩ := f_ln0 h1 z0
  unfold vl_top at z1 z2
  rw [z1, z2, ((u5 h22).1 l hll.1 hll.2).1]
theorem pr_side {n : Nat} {μ : am_M} (k : Int) (hJ : J n μ) : Prx 68 129 [(0, k)] n μ := by
  refine Prx.q hJ (qc_side k hJ) (fun μ1 _ a b c d => qm_side a b c d k) ?_
  intro m m' x x' s s' hb hb' h1 h2 f1 f2
  have hbm : BE m m' := hb.symm.trans hb'
  have hBm := hJ.2.1.tr hb
  obtain ⟨u1, u2, u3, u4, u5⟩ := MS_all hBm hbm h1 h2
  refine fq_u (f_nt_e hbm u2 k).symm (fun z0 z1 z2 => ?_) f1 f2
  obtain ⟨hkk, hsh, h22⟩ := f_nt0 h1 z0
  have hkm : k ∈ md_hr m 0 (m 32 7).toNat := md_hr_iff.mpr ⟨by omega, by have := (hBm.2.2.2.2.2.2.2.2 k hkk.1 hkk.2).1; omega, by unfold md_setB; simp [hsh]⟩
  unfold vl_side at z1 z2
  rw [z1, z2, (u5 h22).2 k hkm 51 (by decide) (by decide)]
theorem pr_place {n : Nat} {μ : am_M} (k : Int) (hJ : J n μ) : Prx 69 130 [(0, k)] n μ := by
  refine Prx.q hJ (qc_place k hJ) (fun μ1 _ a b c d => qm_place a b c d k) ?_
  intro m m' x x' s s' hb hb' h1 h2 f1 f2
  have hbm : BE m m' := hb.symm.trans hb'
  have hBm := hJ.2.1.tr hb
  obtain ⟨u1, u2, u3, u4, u5⟩ := MS_all hBm hbm h1 h2
  refine fq_u (f_nt_e hbm u2 k).symm (fun z0 z1 z2 => ?_) f1 f2
  obtain ⟨hkk, hsh, h22⟩ := f_nt0 h1 z0
  have hkm : k ∈ md_hr m 0 (m 32 7).toNat := md_hr_iff.mpr ⟨by omega, by have := (hBm.2.2.2.2.2.2.2.2 k hkk.1 hkk.2).1; omega, by unfold md_setB; simp [hsh]⟩
  unfold vl_place at z1 z2
  rw [z1, z2, (u5 h22).2 k hkm 52 (by decide) (by decide)]
theorem pr_rest {n : Nat} {μ : am_M} (k : Int) (hJ : J n μ) : Prx 70 131 [(0, k)] n μ := by
  refine Prx.q hJ (qc_rest k hJ) (fun μ1 _ a b c d => qm_rest a b c d k) ?_
  intro m m' x x' s s' hb hb' h1 h2 f1 f2
  have hbm : BE m m' := hb.symm.trans hb'
  have hBm := hJ.2.1.tr hb
  obtain ⟨u1, u2, u3, u4, u5⟩ := MS_all hBm hbm h1 h2
  refine fq_u (f_nt_e hbm u2 k).symm (fun z0 z1 z2 => ?_) f1 f2
  obtain ⟨hkk, hsh, h22⟩ := f_nt0 h1 z0
  have hkm : k ∈ md_hr m 0 (m 32 7).toNat := md_hr_iff.mpr ⟨by omega, by have := (hBm.2.2.2.2.2.2.2.2 k hkk.1 hkk.2).1; omega, by unfold md_setB; simp [hsh]⟩
  unfold vl_rest at z1 z2
  rw [z1, z2, (u5 h22).2 k hkm 54 (by decide) (by decide)]
theorem pr_cost {n : Nat} {μ : am_M} (p : Int) (hJ : J n μ) : Prx 73 137 [(0, p)] n μ := by
  refine Prx.q hJ (qc_cost p hJ) (fun μ1 _ a b c d => qm_cost a b c d p) ?_
  intro m m' x x' s s' hb hb' h1 h2 f1 f2
  have hbm : BE m m' := hb.symm.trans hb'
  obtain ⟨u1, u2, u3, u4, u5⟩ := MS_all (hJ.2.1.tr hb) hbm h1 h2
  refine fq_u (f_pg_e u2 u1 p).symm (fun z0 z1 z2 => ?_) f1 f2
  obtain ⟨hpp, h22⟩ := f_pg0 h1 z0
  unfold vl_cost at z1 z2
  rw [z1, z2, (u3 p hpp.1 hpp.2).2.2]
theorem pr_moved {n : Nat} {μ : am_M} (p : Int) (hJ : J n μ) : Prx 75 139 [(0, p)] n μ := by
  refine Prx.q hJ (qc_moved p hJ) (fun μ1 _ a b c d => qm_moved a b c d p) ?_
  intro m m' x x' s s' hb hb' h1 h2 f1 f2
  have hbm : BE m m' := hb.symm.trans hb'
  have hBm := hJ.2.1.tr hb
  obtain ⟨u1, u2, u3, u4, u5⟩ := MS_all hBm hbm h1 h2
  refine fq_u (f_pg_e u2 u1 p).symm (fun z0 z1 z2 => ?_) f1 f2
  obtain ⟨hpp, h22⟩ := f_pg0 h1 z0
  obtain ⟨t1, t2⟩ := u5 h22
  unfold vl_moved at z1 z2
  rw [z1, z2, (u3 p hpp.1 hpp.2).1, (u3 p hpp.1 hpp.2).2.1, md_hr_tr hbm]
  refine (md_mv_cg (fun k hk => ?_)).symm
  obtain ⟨v1, v2, v3⟩ := h1.sub hBm hpp.1 hpp.2 k hk
  exact ⟨t2 k v1 52 (by decide) (by decide), by rw [hbm.2 34 k (by decide) (by decide)]; exact (t1 _ v2 v3).1⟩
theorem pr_runs {n : Nat} {μ : am_M} (p q : Int) (hJ : J n μ) : Prx 74 138 [(0, p), (0, q)] n μ := by
  refine Prx.q hJ (qc_runs p q hJ) (fun μ1 _ a b c d => qm_runs a b c d p q) ?_
  intro m m' x x' s s' hb hb' h1 h2 f1 f2
  have hbm : BE m m' := hb.symm.trans hb'
  have hBm := hJ.2.1.tr hb
  obtain ⟨u1, u2, u3, u4, u5⟩ := MS_all hBm hbm h1 h2
  refine fq_u (by unfold f_rn; rw [f_pg_e u2 u1 p]) (fun z0 z1 z2 => ?_) f1 f2
  unfold f_rn at z0
  by_cases hq : 0 ≤ q ∧ q ≤ 1
  · rw [if_pos hq] at z0
    obtain ⟨hpp, h22⟩ := f_pg0 h1 z0
    obtain ⟨t1, t2⟩ := u5 h22
    have e47 : m' 47 (2 * p + q) = m 47 (2 * p + q) := by
      have := u4 p hpp.1 (by omega)
      have hq2 : q = 0 ∨ q = 1 := by omega
      rcases hq2 with rfl | rfl
      · rw [show 2 * p + 0 = 2 * p by omega]; exact this.1
      · exact this.2
    unfold vl_runs at z1 z2
    rw [z1, z2, (u3 p hpp.1 hpp.2).1, (u3 p hpp.1 hpp.2).2.1, md_hr_tr hbm, e47, hbm.1 3 (by decide) (by decide)]
    rw [md_rn_cg (g := m') (m := m) (fun k hk => ?_)]
    obtain ⟨v1, -⟩ := h1.sub hBm hpp.1 hpp.2 k hk
    exact ⟨t2 k v1 51 (by decide) (by decide), t2 k v1 52 (by decide) (by decide), t2 k v1 53 (by decide) (by decide)⟩
  · rw [if_neg hq] at z0; omega
/-- brackets in words of pages alike -/
theorem br_e {μ m g : am_M} (hb : BE m g) {p : Int} (h45 : g 45 p = m 45 p) (h46 : g 46 p = m 46 p) : (∀ k, bF g p k = bF m p k) ∧ (∀ k, bL μ g p k = bL μ m p k) ∧ ∀ k, bH μ g p k = bH μ m p k := by
  have e1 : ∀ k, bF g p k = bF m p k := fun k => by unfold bF; rw [h45, hb.2 34 k (by decide) (by decide)]
  have e2 : ∀ k, bL μ g p k = bL μ m p k := fun k => by unfold bL; rw [h45, h46]
  exact ⟨e1, e2, fun k => by unfold bH; rw [e1, e2]⟩
theorem f_br_e {μ m g : am_M} (hb : BE m g) (h22 : g 32 22 = m 32 22) (h23 : g 32 23 = m 32 23) {p : Int} (hp : 0 ≤ p → p < m 32 23 → g 45 p = m 45 p ∧ g 46 p = m 46 p) (k : Int) : f_br μ k p g = f_br μ k p m := by
  unfold f_br
  rw [f_nt_e hb h22, h23]
  by_cases hpp : 0 ≤ p ∧ p < m 32 23
  · obtain ⟨h1, h2⟩ := hp hpp.1 hpp.2
    obtain ⟨e1, e2, e3⟩ := br_e (μ := μ) hb h1 h2
    rw [e1, e2]
  · rw [if_neg hpp, if_neg hpp]
theorem pr_bracket {n : Nat} {μ : am_M} (k p e : Int) (he : e = 0 ∨ e = 1) (hJ : J n μ) : Prx 72 136 [(0, k), (0, p), (0, e)] n μ := by
  refine Prx.q hJ (qc_bracket k p e he hJ) (fun μ1 hO a b c d => ?_) ?_
  · have e43 : ∀ z, μ1 43 z = μ 43 z := fun z => hO 43 z (by unfold Sq2 Sk; omega)
    have h := qm_bracket a b c d k p e he
    have e1 : f_br μ1 k p = f_br μ k p := by funext m; exact f_br43 e43 k p m
    have e2 : vl_bracket μ1 k p e = vl_bracket μ k p e := by funext m x; unfold vl_bracket; rw [(bH43 (m := m) e43).1]
    rw [e1, e2] at h
    exact h
  intro m m' x x' s s' hb hb' h1 h2 f1 f2
  have hbm : BE m m' := hb.symm.trans hb'
  have hBm := hJ.2.1.tr hb
  obtain ⟨u1, u2, u3, u4, u5⟩ := MS_all hBm hbm h1 h2
  refine fq_u (f_br_e hbm u2 u1 (fun a b => ⟨(u3 p a b).1, (u3 p a b).2.1⟩) k).symm (fun z0 z1 z2 => ?_) f1 f2
  obtain ⟨hf0, hpp, hbh⟩ := f_br0 z0
  obtain ⟨hkk, hsh, h22⟩ := f_nt0 h1 hf0
  obtain ⟨t1, t2⟩ := u5 h22
  obtain ⟨e1, e2, e3⟩ := br_e (μ := μ) hbm (u3 p hpp.1 hpp.2).1 (u3 p hpp.1 hpp.2).2.1
  have h2' := (h1.1.2.2.1 p hpp.1 hpp.2).2.1
  have hb2 := hbh.2
  have hin : (0 ≤ bF m p k ∧ bF m p k < m 32 7) ∧ (0 ≤ bL μ m p k ∧ bL μ m p k < m 32 7) := by
    unfold bF bL at *
    omega
  unfold vl_bracket at z1 z2
  rw [z1, z2, e1, e2, (t1 _ hin.1.1 hin.1.2).1, (t1 _ hin.2.1 hin.2.2).1, hbm.2 33 _ (by decide) (by decide)]
theorem pr_column {n : Nat} {μ : am_M} (k p : Int) (hJ : J n μ) : Prx 71 135 [(0, k), (0, p)] n μ := by
  refine Prx.q hJ (qc_column k p hJ) (fun μ1 hO a b c d => ?_) ?_
  · have e43 : ∀ z, μ1 43 z = μ 43 z := fun z => hO 43 z (by unfold Sq2 Sk; omega)
    have h := qm_column a b c d k p
    have e1 : f_br μ1 k p = f_br μ k p := by funext m; exact f_br43 e43 k p m
    have e2 : vl_column μ1 k p = vl_column μ k p := by
      funext m x
      unfold vl_column
      rw [(bH43 (m := m) e43).2.1, (bH43 (m := m) e43).2.2.2]
    rw [e1, e2] at h
    exact h
  intro m m' x x' s s' hb hb' h1 h2 f1 f2
  have hbm : BE m m' := hb.symm.trans hb'
  have hBm := hJ.2.1.tr hb
  obtain ⟨u1, u2, u3, u4, u5⟩ := MS_all hBm hbm h1 h2
  refine fq_u (f_br_e hbm u2 u1 (fun a b => ⟨(u3 p a b).1, (u3 p a b).2.1⟩) k).symm (fun z0 z1 z2 => ?_) f1 f2
  obtain ⟨hf0, hpp, hbh⟩ := f_br0 z0
  obtain ⟨hkk, hsh, h22⟩ := f_nt0 h1 hf0
  obtain ⟨t1, t2⟩ := u5 h22
  obtain ⟨e1, e2, e3⟩ := br_e (μ := μ) hbm (u3 p hpp.1 hpp.2).1 (u3 p hpp.1 hpp.2).2.1
  have ehr : md_hr m' 0 (m' 32 7).toNat = md_hr m 0 (m 32 7).toNat := by rw [md_hr_tr hbm, hbm.1 7 (by decide) (by decide)]
  have e51 : ∀ z ∈ md_hr m 0 (m 32 7).toNat, m' 51 z = m 51 z := fun z hz => t2 z hz 51 (by decide) (by decide)
  have eah : ∀ a b, ah m' a b = ah m a b := fun a b => by unfold ah; rw [hbm.2 34 a (by decide) (by decide), hbm.2 34 b (by decide) (by decide)]
  have hkm : k ∈ md_hr m 0 (m 32 7).toNat := md_hr_iff.mpr ⟨by omega, by have := (hBm.2.2.2.2.2.2.2.2 k hkk.1 hkk.2).1; omega, by unfold md_setB; simp [hsh]⟩
  obtain ⟨col, c1, c2⟩ := z1
  obtain ⟨col', d1, d2⟩ := z2
  have ebM : ∀ z ∈ md_hr m 0 (m 32 7).toNat, ∀ w, bM μ m p z w → bM μ m' p z w := fun z hz w hw => by
    obtain ⟨w1, w2, w3, w4, w5⟩ := hw
    exact ⟨by rw [ehr]; exact w1, by rw [eah]; exact w2, by rw [e3]; exact w3, by rw [e51 w w1, e51 z hz]; exact w4, by rw [e1, e2]; exact w5⟩
  have ebM' : ∀ z ∈ md_hr m 0 (m 32 7).toNat, ∀ w, bM μ m' p z w → bM μ m p z w := fun z hz w hw => by
    obtain ⟨w1, w2, w3, w4, w5⟩ := hw
    rw [ehr] at w1
    exact ⟨w1, by rw [← eah]; exact w2, by rw [← e3]; exact w3, by rw [← e51 w w1, ← e51 z hz]; exact w4, by rw [← e1, ← e2]; exact w5⟩
  rw [c2, d2]
  refine IsC_uniq (s := m 51 k) c1 (fun z hz hzb hzs => ?_) k hkm hbh rfl
  obtain ⟨i1, i2, i3⟩ := d1 z (by rw [ehr]; exact hz) (by rw [e3]; exact hzb) (by rw [e51 z hz, e51 k hkm]; exact hzs)
  refine ⟨i1, fun w hw => i2 w (ebM z hz w hw), fun c q0 q1 => ?_⟩
  obtain ⟨w, w1, w2⟩ := i3 c q0 q1
  exact ⟨w, ebM' z hz w w1, w2⟩

/-! The reference: arbiters. -/
section AC
variable {d : Nat} {σ : St} {n : Nat} {K W A : Nat → Int32}
theorem m_wrongBy {m c : Nat} (h6 : n ≤ 6) (hm1 : 1 ≤ m) (hm3 : m ≤ 3) (hc : c < (Pn n + 1) ^ m) (hW1 : W01 W) (hz : ZA n A) (h : Mr σ n K W) (hT : Tb σ 35 A) : ∃ σ', call (d + 3) 183 [vR 7 0, vI (nI c), vI (nI m)] σ = some (some (vI (nI (lvl n K W (dgs (Pn n + 1) m c) A))), σ') ∧ Ag QM σ σ' := by
  have hP := Pn_le n h6
  have pw : ∀ r, r ≤ 3 → 0 < (Pn n + 1) ^ r ∧ (Pn n + 1) ^ r ≤ 4096 := fun r hr => ⟨Nat.pow_pos (by omega), Nat.le_trans (Nat.pow_le_pow_left (show Pn n + 1 ≤ 16 by omega) r) (Nat.le_trans (Nat.pow_le_pow_right (by decide) hr) (by decide))⟩
  have loop1 : ∀ f k, k + f = m → 1 ≤ k → ∀ σ : St, Mr σ n K W → exec (d + 3) 183 16 [vR 7 0, vI (nI c), vI (nI m), vI (nI ((Pn n + 1) ^ (k - 1))), vI (nI k), vN, vN] [] σ = exec (d + 3) 183 37 [vR 7 0, vI (nI c), vI (nI m), vI (nI ((Pn n + 1) ^ (m - 1))), vI (nI m), vN, vN] [] σ := by
    intro f
    induction f with
    | zero =>
      intro k hk h1 σ h
      have e : k = m := by omega
      rw [e, s183_16, if_neg nlt]
    | succ f ih =>
      intro k hk h1 σ h
      have e1 := m_pairsMany (d := d + 2) h.1 h6
      have e2 : nI ((Pn n + 1) ^ (k - 1)) * nI (Pn n + 1) = nI ((Pn n + 1) ^ (k + 1 - 1)) := by
        rw [pk_mul, show k + 1 - 1 = k - 1 + 1 by omega, Nat.pow_succ]
      rw [s183_16, if_pos (ltn (show k < m by omega) (by omega))]
      simp only [s183_22, s183_27, e1, e2, add1N, Option.bind_some, Option.toList_some, Option.toList_none, List.cons_append, List.nil_append, true_or, or_true, if_true, if_false, i10, i01, Bool.false_eq_true]
      exact ih (k + 1) (by omega) (by omega) σ h
  have loop2 : ∀ r k c' x3 v6 (A' : Nat → Int32), k + r = m → c' < (Pn n + 1) ^ r → (0 < r → x3 = nI ((Pn n + 1) ^ (r - 1))) → ZA n A' → ∀ σ : St, Mr σ n K W → Tb σ 41 A' → (r = 0 → Fc σ n (pick n K W A')) → ∃ σ', exec (d + 3) 183 43 [vR 7 0, vI (nI c), vI (nI m), vI x3, vI (nI c'), vI (nI k), v6] [] σ = some (some (vI (nI (lvl n K W (dgs (Pn n + 1) r c') A'))), σ') ∧ Ag (GM 41) σ σ' := by
    intro r
    induction r with
    | zero =>
      intro k c' x3 v6 A' hk hc' hx hz σ h hT hF
      have e : k = m := by omega
      have F := hF rfl
      have hv : ∀ a b, pick n K W A' a = some b → b < n := fun a b h => pick_lt h
      have e1 := m_staresMany (d := d + 1) h.1 h6 F hv
      have e2 := m_ringsMany (d := d) h.1 h6 F hv
      refine ⟨σ, ?_, Ag.rf⟩
      rw [e, s183_43, if_neg nlt]
      simp only [s183_106, s183_110, s183_114, e1, e2, addN, Option.bind_some, Option.toList_some, Option.toList_none, List.cons_append, List.nil_append, true_or, or_true, if_true, if_false, i10, i01, Bool.false_eq_true]
      rfl
    | succ r ih =>
      intro k c' x3 v6 A' hk hc' hx hz σ h hT hF
      have hx3 : x3 = nI ((Pn n + 1) ^ r) := hx (by omega)
      obtain ⟨pr0, pr4⟩ := pw r (by omega)
      have hc5 : c' < 4096 := Nat.lt_of_lt_of_le hc' (pw (r + 1) (by omega)).2
      obtain ⟨P, hPe⟩ : ∃ P, (Pn n + 1) ^ r = P := ⟨_, rfl⟩
      rw [hPe] at hx3 pr0 pr4
      have hpl : c' / P < Pn n + 1 := Nat.div_lt_of_lt_mul (by rw [← hPe, ← Nat.pow_succ]; exact hc')
      have hml : c' % P < P := Nat.mod_lt _ pr0
      have e1 := m_pairsMany (d := d + 2) h.1 h6
      have z3 : (nI P = 0) = False := eq_false (nI_ne0 pr0 (by omega))
      have zb : (nI (Pn n + 1) = 0) = False := eq_false (nI_ne0 (by omega) (by omega))
      have d1 : nI c' / nI P = nI (c' / P) := pk_div (by omega) pr0 (by omega)
      have d2 : nI c' - nI (c' / P) * nI P = nI (c' % P) := by rw [← d1]; exact pk_rem (by omega) pr0 (by omega)
      have d3 : nI P / nI (Pn n + 1) = nI (P / (Pn n + 1)) := pk_div (by omega) (by omega) (by omega)
      have lt0 : ((0 : Int32) < nI (c' / P)) = (0 < c' / P) := by rw [n0]; exact ltN (by omega) (by omega)
      have hx' : 0 < r → nI (P / (Pn n + 1)) = nI ((Pn n + 1) ^ (r - 1)) := fun hr => by
        rw [← hPe, show r = r - 1 + 1 by omega, Nat.pow_succ, Nat.mul_div_cancel _ (by omega), Nat.add_sub_cancel]
      have el : lvl n K W (dgs (Pn n + 1) (r + 1) c') A' = lvl n K W (dgs (Pn n + 1) r (c' % P)) (mor n K W (pcO (pof n (c' / P)) A')) := by rw [← hPe]; rfl
      by_cases hpos : 0 < c' / P
      · obtain ⟨hp15, -⟩ := PN_lt n h6 (c' / P - 1) (by omega)
        have e4 := m_pairAt (d := d + 2) h.1 h6 (show c' / P - 1 < Pn n by omega)
        have s1 : nI (c' / P) - 1 = nI (c' / P - 1) := by rw [show (1 : Int32) = nI 1 from rfl, pk_sub (by omega)]
        obtain ⟨σ1, e5, T1, g1⟩ := m_makePeace (d := d + 2) hp15 hT
        have h1 := h.ag g1 (by omega) (by omega) (by omega)
        obtain ⟨σ2, e6, T2, F2, g2⟩ := m_goMorning (d := d) (Or.inr rfl) h6 hW1 h1 T1 (ZA_pc hz)
        obtain ⟨σ3, e7, g3⟩ := ih (k + 1) (c' % P) (nI (P / (Pn n + 1))) (vI (nI (c' / P))) _ (by omega) (by rw [hPe]; exact hml) hx' (ZA_mor (ZA_pc hz)) σ2 (h1.gm (Or.inr rfl) g2) T2 (fun _ => F2)
        have ep : pcO (pof n (c' / P)) A' = pcA (prn n (c' / P - 1)) A' := by unfold pof; rw [if_neg (by omega)]; rfl
        refine ⟨σ3, ?_, ((g1.mono (fun x q z => ⟨z.2, Or.inl z.1⟩)).tr g2).tr g3⟩
        rw [s183_43, if_pos (ltn (show k < m by omega) (by omega)), hx3, el, ep]
        simp only [s183_49, s183_53, s183_59, s183_66, s183_69, s183_75, s183_88, s183_91, s183_99, z3, d1, d2, e1, add1N, zb, d3, lt0.trans (eq_true hpos), s1, e4, e5, e6, Option.bind_some, Option.toList_some, Option.toList_none, List.cons_append, List.nil_append, true_or, or_true, if_true, if_false, i10, i01, Bool.false_eq_true]
        exact e7
      · obtain ⟨σ2, e6, T2, F2, g2⟩ := m_goMorning (d := d) (Or.inr rfl) h6 hW1 h hT hz
        obtain ⟨σ3, e7, g3⟩ := ih (k + 1) (c' % P) (nI (P / (Pn n + 1))) (vI (nI (c' / P))) _ (by omega) (by rw [hPe]; exact hml) hx' (ZA_mor hz) σ2 (h.gm (Or.inr rfl) g2) T2 (fun _ => F2)
        have ep : pcO (pof n (c' / P)) A' = A' := by unfold pof; rw [if_pos (Nat.eq_zero_of_not_pos hpos)]; rfl
        refine ⟨σ3, ?_, g2.tr g3⟩
        rw [s183_43, if_pos (ltn (show k < m by omega) (by omega)), hx3, el, ep]
        simp only [s183_49, s183_53, s183_59, s183_66, s183_69, s183_91, s183_99, z3, d1, d2, e1, add1N, zb, d3, lt0.trans (eq_false hpos), e6, Option.bind_some, Option.toList_some, Option.toList_none, List.cons_append, List.nil_append, true_or, or_true, if_true, if_false, i10, i01, Bool.false_eq_true]
        exact e7
  obtain ⟨σ1, e1, T1, g1⟩ := m_toWork (d := d + 2) hT
  have h1 := h.qm g1.wq
  obtain ⟨σ2, e2, g2⟩ := loop2 m 0 c (nI ((Pn n + 1) ^ (m - 1))) vN A (by omega) hc (fun _ => rfl) hz σ1 h1 T1 (fun z => by omega)
  refine ⟨σ2, ?_, g1.wq.tr g2.gq⟩
  have l1 := loop1 (m - 1) 1 (by omega) (Nat.le_refl _) σ1 h1
  simp only [s183_e, s183_0, s183_11, e1, Option.bind_some, Option.toList_some, Option.toList_none, List.cons_append, List.nil_append, true_or, or_true, if_true, if_false, i10, i01, Bool.false_eq_true]
  refine l1.trans ?_
  rw [s183_37]
  exact e2
theorem m_arbiterOf {m w : Nat} (h6 : n ≤ 6) (hm1 : 1 ≤ m) (hm3 : m ≤ 3) (hW1 : W01 W) (hz : ZA n A) (hR : R20 A) (h : Mr σ n K W) (hT : Tb σ 35 A) (hw : w = 0 ∨ (10 ≤ w ∧ w ≤ 12)) : ∃ σ', call (d + 4) 184 [vR 7 0, vI (nI m), vI (nI w)] σ = some (some (vI (pfA (nI (abR n K W A m).1) (abR n K W A m).2 w)), σ') ∧ Ag QM σ σ' := by
  have hP := Pn_le n h6
  have pw : ∀ r, r ≤ 3 → 0 < (Pn n + 1) ^ r ∧ (Pn n + 1) ^ r ≤ 4096 := fun r hr => ⟨Nat.pow_pos (by omega), Nat.le_trans (Nat.pow_le_pow_left (show Pn n + 1 ≤ 16 by omega) r) (Nat.le_trans (Nat.pow_le_pow_right (by decide) hr) (by decide))⟩
  obtain ⟨N0, N4⟩ := pw m hm3
  have zb : (nI (Pn n + 1) = 0) = False := eq_false (nI_ne0 (by omega) (by omega))
  have loop1 : ∀ f k, k + f = m → ∀ σ : St, Mr σ n K W → exec (d + 4) 184 5 [vR 7 0, vI (nI m), vI (nI w), vI (nI ((Pn n + 1) ^ k)), vI (nI k), vN, vN, vN] [] σ = exec (d + 4) 184 26 [vR 7 0, vI (nI m), vI (nI w), vI (nI ((Pn n + 1) ^ m)), vI (nI m), vN, vN, vN] [] σ := by
    intro f
    induction f with
    | zero =>
      intro k hk σ h
      have e : k = m := by omega
      rw [e, s184_5, if_neg nlt]
    | succ f ih =>
      intro k hk σ h
      have e1 := m_pairsMany (d := d + 3) h.1 h6
      have e2 : nI ((Pn n + 1) ^ k) * nI (Pn n + 1) = nI ((Pn n + 1) ^ (k + 1)) := by
        rw [pk_mul, ← Nat.pow_succ]
      rw [s184_5, if_pos (ltn (show k < m by omega) (by omega))]
      simp only [s184_11, s184_16, e1, e2, add1N, Option.bind_some, Option.toList_some, Option.toList_none, List.cons_append, List.nil_append, true_or, or_true, if_true, if_false, i10, i01, Bool.false_eq_true]
      exact ih (k + 1) (by omega) σ h
  obtain ⟨v, hv⟩ : ∃ v : Nat → Nat, v = fun c => lvl n K W (dgs (Pn n + 1) m c) A := ⟨_, rfl⟩
  have hv12 : ∀ c, v c ≤ 12 := fun c => by rw [hv]; exact lvl_le h6 _ _
  have loop2 : ∀ f c, c + f = (Pn n + 1) ^ m → ∀ (s : Nat × Nat) (v7 : IV), s.1 ≤ 99 → s.2 < (Pn n + 1) ^ m → ∀ σ : St, Mr σ n K W → Tb σ 35 A → ∃ σ' x v7', exec (d + 4) 184 36 [vR 7 0, vI (nI m), vI (nI w), vI (nI ((Pn n + 1) ^ m)), vI (nI s.2), vI (nI s.1), vI (nI c), v7] [] σ = exec (d + 4) 184 94 [vR 7 0, vI (nI m), vI (nI w), vI (nI ((Pn n + 1) ^ m)), vI (nI ((List.range' c f).foldl (rst v) s).2), vI (nI ((List.range' c f).foldl (rst v) s).1), vI x, v7'] [] σ' ∧ Ag QM σ σ' := by
    intro f
    induction f with
    | zero =>
      intro c hc s v7 hs1 hs2 σ h hT
      have e : c = (Pn n + 1) ^ m := by omega
      refine ⟨σ, nI c, v7, ?_, Ag.rf⟩
      rw [e, s184_36, if_neg nlt]
      rfl
    | succ f ih =>
      intro c hc s v7 hs1 hs2 σ h hT
      by_cases c0 : s.1 = 0
      · refine ⟨σ, nI c, v7, ?_, Ag.rf⟩
        rw [rst_0 _ _ c0, c0, s184_36, if_pos (ltn (show c < (Pn n + 1) ^ m by omega) (by omega)), s184_42, if_neg (show ¬ (0 : Int32) < nI 0 from nlt)]
      · have lt0 : ((0 : Int32) < nI s.1) = (0 < s.1) := by rw [n0]; exact ltN (by omega) (by omega)
        obtain ⟨σ1, e1, g1⟩ := m_wrongBy (d := d) h6 hm1 hm3 (show c < (Pn n + 1) ^ m by omega) hW1 hz h hT
        have e1' : call (d + 3) 183 [vR 7 0, vI (nI c), vI (nI m)] σ = some (some (vI (nI (v c))), σ1) := by rw [hv]; exact e1
        have elt : (nI (v c) < nI s.1) = (v c < s.1) := ltN (by have := hv12 c; omega) (by omega)
        rw [List.range'_succ, List.foldl_cons]
        by_cases c1 : v c < s.1
        · have er : rst v s c = (v c, c) := if_pos c1
          rw [er]
          obtain ⟨σ2, x, v7', e2, g2⟩ := ih (c + 1) (by omega) (v c, c) (vI (nI (v c))) (by have := hv12 c; show v c ≤ 99; omega) (by show c < _; omega) σ1 (h.qm g1) (hT.qm g1)
          refine ⟨σ2, x, v7', ?_, g1.tr g2⟩
          rw [s184_36, if_pos (ltn (show c < (Pn n + 1) ^ m by omega) (by omega)), s184_42, if_pos (lt0.mpr (by omega))]
          simp only [s184_47, s184_54, s184_63, s184_70, s184_79, s184_86, e1', elt.trans (eq_true c1), add1N, Option.bind_some, Option.toList_some, Option.toList_none, List.cons_append, List.nil_append, true_or, or_true, if_true, if_false, i10, i01, Bool.false_eq_true]
          exact e2
        · have er : rst v s c = s := if_neg c1
          rw [er]
          obtain ⟨σ2, x, v7', e2, g2⟩ := ih (c + 1) (by omega) s (vI (nI (v c))) hs1 hs2 σ1 (h.qm g1) (hT.qm g1)
          refine ⟨σ2, x, v7', ?_, g1.tr g2⟩
          rw [s184_36, if_pos (ltn (show c < (Pn n + 1) ^ m by omega) (by omega)), s184_42, if_pos (lt0.mpr (by omega))]
          simp only [s184_47, s184_54, s184_68, s184_70, s184_84, s184_86, e1', elt.trans (eq_false c1), add1N, Option.bind_some, Option.toList_some, Option.toList_none, List.cons_append, List.nil_append, true_or, or_true, if_true, if_false, i10, i01, Bool.false_eq_true]
          exact e2
  obtain ⟨σ1, x, v7', e2, g1⟩ := loop2 ((Pn n + 1) ^ m) 0 (by omega) (99, 0) vN (Nat.le_refl _) N0 σ h hT
  have ear : (List.range' 0 ((Pn n + 1) ^ m)).foldl (rst v) (99, 0) = arR n K W A m := by rw [hv, ← List.range_eq_range']; rfl
  rw [ear] at e2
  obtain ⟨q1, q2, q3, q4⟩ := abR_arR (n := n) (K := K) (W := W) (A := A) (m := m) h6 hR
  have start : call (d + 4) 184 [vR 7 0, vI (nI m), vI (nI w)] σ = exec (d + 4) 184 94 [vR 7 0, vI (nI m), vI (nI w), vI (nI ((Pn n + 1) ^ m)), vI (nI (arR n K W A m).2), vI (nI (arR n K W A m).1), vI x, v7'] [] σ1 := by
    have l1 := loop1 m 0 (by omega) σ h
    rw [s184_e, s184_0]
    refine l1.trans ?_
    rw [s184_26]
    exact e2
  have ew0 : (nI w = 0) = (w = 0) := by rw [n0]; exact eqN (by omega) (by omega)
  refine ⟨σ1, ?_, g1⟩
  rw [start, s184_94, q1]
  unfold pfA
  by_cases c0 : w = 0
  · rw [if_pos (ew0.mpr c0), if_pos c0, s184_98]
  · rw [if_neg (fun z => c0 (ew0.mp z)), if_neg c0, s184_101]
    have hw' : 10 ≤ w ∧ w ≤ 12 := by omega
    have e10 : nI w - 10 = nI (w - 10) := by rw [show (10 : Int32) = nI 10 from rfl, pk_sub (by omega)]
    rw [e10]
    by_cases c1 : w - 10 < m
    · rw [if_pos (ltn c1 (by omega)), s184_111, q3 _ c1]
      have loop3 : ∀ f y, f ≤ 3 → y < 4096 → ∀ σ : St, Mr σ n K W → exec (d + 4) 184 116 [vR 7 0, vI (nI m), vI (nI w), vI (nI ((Pn n + 1) ^ m)), vI (nI y), vI (nI (arR n K W A m).1), vI (nI (w - 10 + f)), v7'] [] σ = exec (d + 4) 184 142 [vR 7 0, vI (nI m), vI (nI w), vI (nI ((Pn n + 1) ^ m)), vI (nI (y / (Pn n + 1) ^ f)), vI (nI (arR n K W A m).1), vI (nI (w - 10)), v7'] [] σ := by
        intro f
        induction f with
        | zero =>
          intro y hf hy σ h
          rw [s184_116, e10, Nat.add_zero, if_neg nlt, Nat.pow_zero, Nat.div_one]
        | succ f ih =>
          intro y hf hy σ h
          have e1 := m_pairsMany (d := d + 3) h.1 h6
          have d1 : nI y / nI (Pn n + 1) = nI (y / (Pn n + 1)) := pk_div (by omega) (by omega) (by omega)
          have em : nI (w - 10 + (f + 1)) + -1 = nI (w - 10 + f) := pk_m1 _
          have hy2 : y / (Pn n + 1) < 4096 := Nat.lt_of_le_of_lt (Nat.div_le_self _ _) hy
          rw [s184_116, e10, if_pos (ltn (show w - 10 < w - 10 + (f + 1) by omega) (by omega))]
          simp only [s184_125, s184_131, s184_134, e1, add1N, zb, d1, em, Option.bind_some, Option.toList_some, Option.toList_none, List.cons_append, List.nil_append, true_or, or_true, if_true, if_false, i10, i01, Bool.false_eq_true]
          refine (ih (y / (Pn n + 1)) (by omega) hy2 σ h).trans ?_
          rw [Nat.div_div_eq_div_mul, Nat.pow_succ, Nat.mul_comm]
      have fin := loop3 (m - 1 - (w - 10)) (arR n K W A m).2 (by omega) (by omega) σ1 (h.qm g1)
      have es : nI m - 1 = nI (w - 10 + (m - 1 - (w - 10))) := by rw [show (1 : Int32) = nI 1 from rfl, pk_sub (by omega)]; congr 1; omega
      rw [es, fin]
      have e1 := m_pairsMany (d := d + 3) (h.qm g1).1 h6
      obtain ⟨y, hy⟩ : ∃ y, (arR n K W A m).2 / (Pn n + 1) ^ (m - 1 - (w - 10)) = y := ⟨_, rfl⟩
      have hy4 : y < 4096 := by rw [← hy]; exact Nat.lt_of_le_of_lt (Nat.div_le_self _ _) (by omega)
      rw [hy]
      have d2 : nI y - nI y / nI (Pn n + 1) * nI (Pn n + 1) = nI (y % (Pn n + 1)) := pk_rem (by omega) (by omega) (by omega)
      have hml : y % (Pn n + 1) < Pn n + 1 := Nat.mod_lt _ (by omega)
      have ez : (nI (y % (Pn n + 1)) = 0) = (y % (Pn n + 1) = 0) := by rw [n0]; exact eqN (by omega) (by omega)
      by_cases c2 : y % (Pn n + 1) = 0
      · have ep : pof n (y % (Pn n + 1)) = none := by unfold pof; rw [if_pos c2]
        rw [ep]
        simp only [s184_142, s184_148, s184_151, s184_158, s184_170, e1, add1N, zb, d2, ez.trans (eq_true c2), Option.bind_some, Option.toList_some, Option.toList_none, List.cons_append, List.nil_append, true_or, or_true, if_true, if_false, i10, i01, Bool.false_eq_true]
        rfl
      · have ep : pof n (y % (Pn n + 1)) = some (prn n (y % (Pn n + 1) - 1)) := by unfold pof; rw [if_neg c2]
        have s1 : nI (y % (Pn n + 1)) - 1 = nI (y % (Pn n + 1) - 1) := by rw [show (1 : Int32) = nI 1 from rfl, pk_sub (by omega)]
        have e4 := m_pairAt (d := d + 3) (h.qm g1).1 h6 (show y % (Pn n + 1) - 1 < Pn n by omega)
        rw [ep]
        simp only [s184_142, s184_148, s184_151, s184_162, s184_170, e1, add1N, zb, d2, ez.trans (eq_false c2), s1, e4, Option.bind_some, Option.toList_some, Option.toList_none, List.cons_append, List.nil_append, true_or, or_true, if_true, if_false, i10, i01, Bool.false_eq_true]
        rfl
    · rw [if_neg (fun z => c1 ((ltN (by omega) (by omega)).mp z)), s184_109, q4 _ (by omega)]
      rfl
end AC

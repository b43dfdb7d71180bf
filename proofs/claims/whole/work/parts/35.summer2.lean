/-! The reference: summers. -/
section M6
variable {d : Nat} {σ : St} {n : Nat} {K W A : Nat → Int32}
theorem Mr.f7 {j : Nat} {x : Int32} (hj : j ≠ 3) (h : Mr σ n K W) : Mr (se σ 7 0 j x) n K W := by
  refine ⟨?_, fun a ha => ?_, fun a ha => ?_⟩
  · rw [se_def, ar_sw_s, upd_n (Ne.symm hj)]; exact h.1
  · rw [se_def, ar_sw_t (by decide)]; exact h.2.1 a ha
  · rw [se_def, ar_sw_t (by decide)]; exact h.2.2 a ha
theorem Tb.f7 {j t : Nat} {x : Int32} (ht : t ≠ 7) (h : Tb σ t A) : Tb (se σ 7 0 j x) t A := fun i hi => by
  rw [se_def, ar_sw_t ht]; exact h i hi
/-- what a summer leaves as it is -/
def QF (σ σ' : St) : Prop := (∀ x q, ¬ (QM x q ∨ (x = 7 ∧ q = 0)) → ar σ' x q = ar σ x q) ∧ (∀ j, j ≠ 29 → j ≠ 2 → ar σ' 7 0 j = ar σ 7 0 j) ∧ σ'.2 = σ.2
theorem QF.tr {σ σ' σ'' : St} (h1 : QF σ σ') (h2 : QF σ' σ'') : QF σ σ'' := ⟨fun x q z => (h2.1 x q z).trans (h1.1 x q z), fun j z y => (h2.2.1 j z y).trans (h1.2.1 j z y), h2.2.2.trans h1.2.2⟩
theorem QF.of {σ σ' : St} (g : Ag QM σ σ') : QF σ σ' := ⟨fun x q z => g.1 x q (fun y => z (Or.inl y)), fun j _ _ => by rw [g.1 7 0 (by unfold QM; omega)], g.2⟩
theorem QF.se29 {σ : St} {x : Int32} : QF σ (se σ 7 0 29 x) := ⟨fun t q z => by
  by_cases e : t = 7
  · subst e
    exact ar_sw_q (fun e2 => z (Or.inr ⟨rfl, e2⟩))
  · exact ar_sw_t e, fun j z _ => by rw [se_def, ar_sw_s, upd_n z], rfl⟩
theorem QF.se2 {σ : St} {x : Int32} : QF σ (se σ 7 0 2 x) := ⟨fun t q z => by
  by_cases e : t = 7
  · subst e
    exact ar_sw_q (fun e2 => z (Or.inr ⟨rfl, e2⟩))
  · exact ar_sw_t e, fun j _ z => by rw [se_def, ar_sw_s, upd_n z], rfl⟩
theorem Mr.qf {σ' : St} (h : Mr σ n K W) (g : QF σ σ') : Mr σ' n K W := ⟨by rw [g.2.1 3 (by omega) (by omega)]; exact h.1, fun a ha => by rw [g.1 31 0 (by unfold QM; omega)]; exact h.2.1 a ha, fun a ha => by rw [g.1 36 0 (by unfold QM; omega)]; exact h.2.2 a ha⟩
theorem m_draw {s k : Nat} (hs : s < 2 ^ 31) (h0 : 0 < k) (hk : k ≤ 1000) (h : ar σ 7 0 29 = nI s) : call d 200 [vR 7 0, vI (nI k)] σ = some (some (vI (nI (drw s / 65536 % k))), se σ 7 0 29 (nI (drw s))) := by
  have e1 : ¬ nI k = 0 := by rw [show (0 : Int32) = nI 0 from rfl, eqN (by omega) (by omega)]; omega
  simp only [s200_e, s200_0, s200_32, h, drw_m hs, e1, Option.bind_some, Option.toList_some, Option.toList_none, List.cons_append, List.nil_append, true_or, or_true, if_true, if_false, i10, i01, Bool.false_eq_true, ar_sw_t, ar_sw_s, se_def, sw_sw, ne_eq, not_false_eq_true, Nat.reduceEqDiff, upd_s, drv (drw_lt s) h0 hk]
theorem ZA_sqA {a b x : Nat} (h : ZA n A) (ha : a < n) (hb : b < n) (h6 : n ≤ 6) : ZA n (sqA A a b x) := fun j hj hc => by
  unfold sqA
  split
  · exact h j hj hc
  · rw [upd_n (by omega)]
    exact h j hj hc
theorem l_summers {m : Nat} {x2 x3 : Int32} (h6 : n ≤ 6) (hn0 : 0 < n) (hm : m ≤ 1000) (hW1 : W01 W) : ∀ f i, i + f = m → ∀ (σ : St) (A : Nat → Int32) (s x y : Nat) (v7 v8 v9 : IV), s < 2 ^ 31 → Mr σ n K W → Tb σ 41 A → ZA n A → ar σ 7 0 29 = nI s → ∃ σ' v7' v8' v9', exec (d + 3) 201 66 [vR 7 0, vI (nI m), vI x2, vI x3, vI (nI x), vI (nI y), vI (nI i), v7, v8, v9] [] σ = exec (d + 3) 201 170 [vR 7 0, vI (nI m), vI x2, vI x3, vI (nI (smr n K W f s A x y).1), vI (nI (smr n K W f s A x y).2.1), vI (nI m), v7', v8', v9'] [] σ' ∧ ar σ' 7 0 29 = nI (smr n K W f s A x y).2.2 ∧ QF σ σ' := by
  intro f
  induction f with
  | zero =>
    intro i hi σ A s x y v7 v8 v9 hs h hT hz h29
    have e : i = m := by omega
    refine ⟨σ, v7, v8, v9, ?_, h29, QF.of Ag.rf⟩
    rw [e, s201_66, if_neg nlt]
    rfl
  | succ f ih =>
    intro i hi σ A s x y v7 v8 v9 hs h hT hz h29
    have hs1 := drw_lt s
    have hs2 := drw_lt (drw s)
    have hs3 := drw_lt (drw (drw s))
    have ha : drw s / 65536 % n < n := Nat.mod_lt _ hn0
    have hb : drw (drw s) / 65536 % n < n := Nat.mod_lt _ hn0
    have d1 := m_draw (d := d + 2) hs hn0 (by omega) h29
    have d2 := m_draw (d := d + 2) (σ := se σ 7 0 29 (nI (drw s))) (k := n) hs1 hn0 (by omega) (by simp only [ar_sw_t, ar_sw_s, se_def, sw_sw, ne_eq, not_false_eq_true, Nat.reduceEqDiff, upd_s])
    have d3 := m_draw (d := d + 2) (σ := se (se σ 7 0 29 (nI (drw s))) 7 0 29 (nI (drw (drw s)))) (k := 4) hs2 (by omega) (by omega) (by simp only [ar_sw_t, ar_sw_s, se_def, sw_sw, ne_eq, not_false_eq_true, Nat.reduceEqDiff, upd_s])
    have n1 : ar (se σ 7 0 29 (nI (drw s))) 7 0 3 = nI n := (h.f7 (j := 29) (by decide)).1
    obtain ⟨σ3, hσ3⟩ : ∃ z, z = se (se (se σ 7 0 29 (nI (drw s))) 7 0 29 (nI (drw (drw s)))) 7 0 29 (nI (drw (drw (drw s)))) := ⟨_, rfl⟩
    rw [← hσ3] at d3
    have g3 : QF σ σ3 := by rw [hσ3]; exact (QF.se29.tr QF.se29).tr QF.se29
    have h3 : Mr σ3 n K W := h.qf g3
    have T3 : Tb σ3 41 A := by rw [hσ3]; exact ((hT.f7 (by decide)).f7 (by decide)).f7 (by decide)
    have x3' : ar σ3 7 0 29 = nI (drw (drw (drw s))) := by rw [hσ3]; simp only [ar_sw_t, ar_sw_s, se_def, sw_sw, ne_eq, not_false_eq_true, Nat.reduceEqDiff, upd_s]
    obtain ⟨a, hae⟩ : ∃ z, z = drw s / 65536 % n := ⟨_, rfl⟩
    obtain ⟨b, hbe⟩ : ∃ z, z = drw (drw s) / 65536 % n := ⟨_, rfl⟩
    obtain ⟨y3, hye⟩ : ∃ z, z = drw (drw (drw s)) / 65536 % 4 := ⟨_, rfl⟩
    rw [smr, ← hae, ← hbe, ← hye]
    rw [← hae] at ha d1
    rw [← hbe] at hb d2
    rw [← hye] at d3
    have i1 : oob (nI (6 * a + b)) 36 = false := oob_nI (by omega) (by omega)
    have j1 : (nI (6 * a + b)).toNatClampNeg = 6 * a + b := clN (by omega)
    have d3' : call (d + 2) 200 [vR 7 0, vI 4] (se (se σ 7 0 29 (nI (drw s))) 7 0 29 (nI (drw (drw s)))) = some (some (vI (nI y3)), σ3) := d3
    have mid : ∃ σ4, exec (d + 3) 201 66 [vR 7 0, vI (nI m), vI x2, vI x3, vI (nI x), vI (nI y), vI (nI i), v7, v8, v9] [] σ = exec (d + 3) 201 142 [vR 7 0, vI (nI m), vI x2, vI x3, vI (nI x), vI (nI y), vI (nI i), vI (nI a), vI (nI b), vI (nI y3)] [] σ4 ∧ Tb σ4 41 (sqA A a b y3) ∧ Ag (fun x q => x = 41 ∧ q = 0) σ3 σ4 := by
      by_cases c1 : a = b
      · have e1 : (nI a = nI b) = True := eq_true (by rw [c1])
        refine ⟨se σ3 41 0 (6 * a + b) 0, ?_, fun j hj => ?_, Ag.sw ⟨rfl, rfl⟩⟩
        · rw [s201_66, if_pos (ltn (show i < m by omega) (by omega))]
          simp only [s201_72, s201_80, s201_90, h.1, n1, d1, d2, d3', Option.bind_some, Option.toList_some, Option.toList_none, List.cons_append, List.nil_append, true_or, or_true, if_true, if_false, i10, i01, Bool.false_eq_true]
          simp only [s201_97, s201_118, s201_141, e1, mul6N', addN, i1, j1, Option.bind_some, Option.toList_some, Option.toList_none, List.cons_append, List.nil_append, true_or, or_true, if_true, if_false, i10, i01, Bool.false_eq_true]
        · unfold sqA
          rw [if_pos c1, se_def, ar_sw_s, upd_if]
          split
          · rename_i ej
            rw [ej, hz (6 * a + b) (by omega) (by omega)]
          · exact T3 j hj
      · have e1 : (nI a = nI b) = False := eq_false (fun z => c1 ((eqN (by omega) (by omega)).mp z))
        have hA1 : ar σ3 41 0 (6 * a + b) = A (6 * a + b) := T3 _ (by omega)
        refine ⟨se σ3 41 0 (6 * a + b) (bd (A (6 * a + b) + nI y3)), ?_, fun j hj => ?_, Ag.sw ⟨rfl, rfl⟩⟩
        · rw [s201_66, if_pos (ltn (show i < m by omega) (by omega))]
          simp only [s201_72, s201_80, s201_90, h.1, n1, d1, d2, d3', Option.bind_some, Option.toList_some, Option.toList_none, List.cons_append, List.nil_append, true_or, or_true, if_true, if_false, i10, i01, Bool.false_eq_true]
          simp only [s201_97, s201_122, s201_135, s201_141, e1, mul6N', addN, i1, j1, hA1, m_topped, Option.bind_some, Option.toList_some, Option.toList_none, List.cons_append, List.nil_append, true_or, or_true, if_true, if_false, i10, i01, Bool.false_eq_true]
        · unfold sqA
          rw [if_neg c1, se_def, ar_sw_s, upd_if, upd_if, T3 j hj]
    obtain ⟨σ4, e4, T4, g4⟩ := mid
    have h4 : Mr σ4 n K W := h3.qm g4.wq
    obtain ⟨A2, hA2⟩ : ∃ z, z = sqA A a b y3 := ⟨_, rfl⟩
    have hz2 : ZA n A2 := by rw [hA2]; exact ZA_sqA hz ha hb h6
    rw [← hA2] at T4 ⊢
    obtain ⟨σ5, e5, T5, F5, g5⟩ := m_goMorning (d := d) (Or.inr rfl) h6 hW1 h4 T4 hz2
    have h5 := h4.gm (Or.inr rfl) g5
    have hst := m_staresMany (d := d + 1) h5.1 h6 F5 (fun a b h => pick_lt h)
    have hst' : call (d + 2) 148 [vR 7 0] σ5 = some (some (vI (nI (stc n K W (mor n K W A2)))), σ5) := hst
    have g45 : QF σ3 σ5 := QF.of (g4.wq.tr g5.gq)
    have x5 : ar σ5 7 0 29 = nI (drw (drw (drw s))) := by rw [(g4.wq.tr g5.gq).1 7 0 (by unfold QM; omega)]; exact x3'
    obtain ⟨σ6, w7, w8, w9, e6, q6, g6⟩ := ih (i + 1) (by omega) σ5 (mor n K W A2) (drw (drw (drw s))) (x + stc n K W (mor n K W A2)) (y + trn n K W A2) (vI (nI a)) (vI (nI b)) (vI (nI y3)) hs3 h5 T5 (ZA_mor hz2) x5
    refine ⟨σ6, w7, w8, w9, ?_, q6, (g3.tr g45).tr g6⟩
    rw [e4]
    simp only [s201_142, s201_152, s201_161, e5, hst', addN, add1N, Option.bind_some, Option.toList_some, Option.toList_none, List.cons_append, List.nil_append, true_or, or_true, if_true, if_false, i10, i01, Bool.false_eq_true]
    exact e6
theorem m_summersB {m s x : Nat} (h6 : n ≤ 6) (hn0 : 0 < n) (hm : m ≤ 1000) (hx : x ≤ 2) (hs : s < 2 ^ 31) (hW1 : W01 W) (hz : ZA n A) (h : Mr σ n K W) (hT : Tb σ 35 A) : ∃ σ', exec (d + 3) 201 41 [vR 7 0, vI (nI m), vI (nI s), vI (nI x), vN, vN, vN, vN, vN, vN] [] σ = some (some (vI (smA n K W A m s x)), σ') ∧ QF σ σ' := by
  obtain ⟨σ1, e1, T1, g1⟩ := m_toWork (d := d + 2) hT
  have x29 : ar (se σ1 7 0 29 (nI s)) 7 0 29 = nI s := by simp only [ar_sw_t, ar_sw_s, se_def, sw_sw, ne_eq, not_false_eq_true, Nat.reduceEqDiff, upd_s]
  obtain ⟨σ2, v7, v8, v9, e2, q2, g2⟩ := l_summers (d := d) (x2 := nI s) (x3 := nI x) h6 hn0 hm hW1 m 0 (by omega) (se σ1 7 0 29 (nI s)) A s 0 0 vN vN vN hs ((h.qm g1.wq).f7 (by decide)) (T1.f7 (by decide)) hz x29
  refine ⟨σ2, ?_, ((QF.of g1.wq).tr QF.se29).tr g2⟩
  have e2' : exec (d + 3) 201 66 [vR 7 0, vI (nI m), vI (nI s), vI (nI x), vI 0, vI 0, vI 0, vN, vN, vN] [] (se σ1 7 0 29 (nI s)) = exec (d + 3) 201 170 [vR 7 0, vI (nI m), vI (nI s), vI (nI x), vI (nI (smr n K W m s A 0 0).1), vI (nI (smr n K W m s A 0 0).2.1), vI (nI m), v7, v8, v9] [] σ2 := e2
  have ex0 : (nI x = 0) = (x = 0) := by rw [n0]; exact eqN (by omega) (by omega)
  have ex1 : (nI x = 1) = (x = 1) := by rw [show (1 : Int32) = nI 1 from rfl]; exact eqN (by omega) (by omega)
  simp only [s201_41, s201_52, e1, Option.bind_some, Option.toList_some, Option.toList_none, List.cons_append, List.nil_append, true_or, or_true, if_true, if_false, i10, i01, Bool.false_eq_true]
  rw [e2']
  unfold smA
  by_cases c0 : x = 0
  · rw [if_pos c0]
    simp only [s201_170, s201_174, s201_193, ex0.trans (eq_true c0), Option.bind_some, Option.toList_some, Option.toList_none, List.cons_append, List.nil_append, true_or, or_true, if_true, if_false, i10, i01, Bool.false_eq_true]
  · rw [if_neg c0]
    by_cases c1 : x = 1
    · rw [if_pos c1]
      simp only [s201_170, s201_179, s201_184, s201_193, ex0.trans (eq_false c0), ex1.trans (eq_true c1), Option.bind_some, Option.toList_some, Option.toList_none, List.cons_append, List.nil_append, true_or, or_true, if_true, if_false, i10, i01, Bool.false_eq_true]
    · rw [if_neg c1]
      simp only [s201_170, s201_179, s201_189, s201_193, ex0.trans (eq_false c0), ex1.trans (eq_false c1), q2, Option.bind_some, Option.toList_some, Option.toList_none, List.cons_append, List.nil_append, true_or, or_true, if_true, if_false, i10, i01, Bool.false_eq_true]
end M6

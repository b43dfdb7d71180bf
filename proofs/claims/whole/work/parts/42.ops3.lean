/-! Calls of both: quarrels, peaces, walls, tenants. -/
section O3
variable {d : Nat} {σ σ' : St} {X : Ab}
theorem CAt.sq {s' : Sq} (h : CAt σ X) (hs : SqAt σ' 0 s') (g : Ag (SB 0) σ σ') : CAt σ' (s', xg X, xL X, xp X, xi X, xr X, xc X, xa X) := by
  obtain ⟨h1, h2, h3, h4, h5, h6, h7⟩ := h
  have e6 := g.1 6 0 (by unfold SB; omega)
  exact ⟨hs, h2.fr (fun t ht => g.1 t 0 (by unfold SB; omega)), h3.fr (fun t ht => g.1 t 0 (by unfold SB; omega)), h4.fr (fun t ht => g.1 t 1 (by unfold SB; omega)) (by rw [e6]), by rw [e6]; exact h5, by rw [e6]; exact h6, by rw [e6]; exact h7⟩
theorem MAt.sq {s' : Sq} (h : MAt σ X) (h1 : Mr σ' (qn s') (qK s') (qW s')) (h2 : Tb σ' 35 (qA s')) (h5 : MfAt σ' s') (e : ∀ t, (t = 30 ∨ t = 44 ∨ (48 ≤ t ∧ t ≤ 53)) → ar σ' t 0 = ar σ t 0) (e7 : ∀ j, (j = 1 ∨ j = 8 ∨ j = 20 ∨ j = 23 ∨ j = 24 ∨ (30 ≤ j ∧ j ≤ 35)) → ar σ' 7 0 j = ar σ 7 0 j) : MAt σ' (s', xg X, xL X, xp X, xi X, xr X, xc X, xa X) := by
  obtain ⟨-, -, h3, h4, -, h6, h7, h8, h9⟩ := h
  exact ⟨h1, h2, h3.fr (e7 24 (by omega)) (e 44 (by omega)), h4.fr (e7 1 (by omega)) (e 30 (by omega)), h5, h6.fr (fun t h1 h2 => e t (by omega)) (fun j h1 h2 => e7 j (by omega)), by rw [e7 8 (by omega)]; exact h7, by rw [e7 20 (by omega)]; exact h8, by rw [e7 23 (by omega)]; exact h9⟩
theorem WfX.sq {s' : Sq} (h : WfX X) (hg : GS s') (hn : qn s' = qn (xs X)) (hV : qV s' = qV (xs X)) : WfX (s', xg X, xL X, xp X, xi X, xr X, xc X, xa X) := by
  obtain ⟨h1, h2, h3, h4, h5, h6⟩ := h
  refine ⟨hg, by show sgW (qn s') (xg X); rw [hn]; exact h2, h3, h4, h5, fun s g hi => ?_⟩
  obtain ⟨a1, a2, a3, a4, a5, a6⟩ := h6 s g hi
  exact ⟨a1, a2, a3, a4.trans hn.symm, fun a ha => by show qV s a = qV s' a; rw [hV]; exact a5 a ha, a6⟩
/-- a square with other angers -/
def sqa (s : Sq) (A : Nat → Int32) (q p : Int32) : Sq := (qn s, qK s, qV s, qT s, qC s, A, qW s, qm s, qt s, q, p)
theorem SqAt.lv {q : Nat} {s : Sq} {A : Nat → Int32} (h : SqAt σ q s) (hl : Lv σ' q (qn s) (qK s) (qW s) A) (g : Ag (SA q) σ σ') : SqAt σ' q (sqa s A (qq s) (qp s)) := by
  obtain ⟨-, h2, h3, h4, h5, h6, h7, h8⟩ := h
  refine ⟨hl, ?_, ?_, ?_, ?_, ?_, ?_, ?_⟩
  · rw [g.1 12 q (by unfold SA; omega)]; exact h2
  · rw [g.1 14 q (by unfold SA; omega)]; exact h3
  · rw [g.1 15 q (by unfold SA; omega)]; exact h4
  · rw [g.1 5 q (by unfold SA; omega)]; exact h5
  · rw [g.1 5 q (by unfold SA; omega)]; exact h6
  · rw [g.1 5 q (by unfold SA; omega)]; exact h7
  · rw [g.1 5 q (by unfold SA; omega)]; exact h8
theorem SqAt.f10 {q : Nat} {s : Sq} {A : Nat → Int32} {u v x : Int32} (h : SqAt σ q (sqa s A u v)) : SqAt (se σ 5 q 10 x) q (sqa s A x v) := by
  obtain ⟨⟨l1, l2, l3, l4, l5⟩, h2, h3, h4, h5, h6, h7, h8⟩ := h
  refine ⟨⟨?_, ?_, ?_, ?_, fun a ha => ?_⟩, ?_, ?_, ?_, ?_, ?_, ?_, ?_⟩
  · rw [se_def, ar_sw_s, upd_n (by decide)]; exact l1
  · rw [se_def, ar_sw_t (by decide)]; exact l2
  · rw [se_def, ar_sw_t (by decide)]; exact l3
  · rw [se_def, ar_sw_t (by decide)]; exact l4
  · rw [se_def, ar_sw_t (by decide)]; exact l5 a ha
  · rw [se_def, ar_sw_t (by decide)]; exact h2
  · rw [se_def, ar_sw_t (by decide)]; exact h3
  · rw [se_def, ar_sw_t (by decide)]; exact h4
  · rw [se_def, ar_sw_s, upd_n (by decide)]; exact h5
  · rw [se_def, ar_sw_s, upd_n (by decide)]; exact h6
  · rw [se_def, ar_sw_s, upd_s]; rfl
  · rw [se_def, ar_sw_s, upd_n (by decide)]; exact h8
theorem SqAt.f11 {q : Nat} {s : Sq} {A : Nat → Int32} {u v x : Int32} (h : SqAt σ q (sqa s A u v)) : SqAt (se σ 5 q 11 x) q (sqa s A u x) := by
  obtain ⟨⟨l1, l2, l3, l4, l5⟩, h2, h3, h4, h5, h6, h7, h8⟩ := h
  refine ⟨⟨?_, ?_, ?_, ?_, fun a ha => ?_⟩, ?_, ?_, ?_, ?_, ?_, ?_, ?_⟩
  · rw [se_def, ar_sw_s, upd_n (by decide)]; exact l1
  · rw [se_def, ar_sw_t (by decide)]; exact l2
  · rw [se_def, ar_sw_t (by decide)]; exact l3
  · rw [se_def, ar_sw_t (by decide)]; exact l4
  · rw [se_def, ar_sw_t (by decide)]; exact l5 a ha
  · rw [se_def, ar_sw_t (by decide)]; exact h2
  · rw [se_def, ar_sw_t (by decide)]; exact h3
  · rw [se_def, ar_sw_t (by decide)]; exact h4
  · rw [se_def, ar_sw_s, upd_n (by decide)]; exact h5
  · rw [se_def, ar_sw_s, upd_n (by decide)]; exact h6
  · rw [se_def, ar_sw_s, upd_n (by decide)]; exact h7
  · rw [se_def, ar_sw_s, upd_s]; rfl
theorem SB_5 {q j : Nat} {x : Int32} : Ag (SB q) σ (se σ 5 q j x) := Ag.sw ⟨rfl, Or.inl rfl⟩
theorem GS.sqa {s : Sq} {A : Nat → Int32} {u v : Int32} (h : GS s) (hz : ZA (qn s) A) (hr : R20 A) : GS (sqa s A u v) := ⟨h.1, h.2.1, h.2.2.1, h.2.2.2.1, h.2.2.2.2.1, hz, hr, h.2.2.2.2.2.2.2⟩
theorem ZA_upd {n a b : Nat} {A : Nat → Int32} {x : Int32} (h6 : n ≤ 6) (ha : a < n) (hb : b < n) (hab : a ≠ b) (h : ZA n A) : ZA n (upd A (6 * a + b) x) := fun j hj hc => by
  rw [upd_n (by omega)]; exact h j hj hc
theorem op_quarrel {x y z : Int32} (hw : Wf σ) (hc : CAt σ X) (hm : MAt σ X) (hx : WfX X) : Step d 104 163 [vI x, vI y, vI z] X σ := by
  have h6 := hx.1.2.1
  have hn := hc.1.1.1
  by_cases c : isT (qn (xs X)) x y
  · obtain ⟨a, b, ha, hb, hab, rfl, rfl⟩ := c
    by_cases c2 : z < nI 1 ∨ nI 9 < z
    · refine Step.rd hw hc hm hx (v := vI (-102)) (σ1 := σ) ?_ Ag.rf (fun m => ⟨σ, ?_, QF.of Ag.rf⟩)
      · have c2' : z < 1 ∨ 9 < z := c2
        by_cases c3 : z < 1
        · simp only [s104_e, s104_0, s104_9, s104_15, s104_26, c_areTwo_t (d := d + 10) hn h6 ha hb hab, c3, Option.bind_some, Option.toList_some, Option.toList_none, List.cons_append, List.nil_append, true_or, or_true, if_true, if_false, i10, i01, Bool.false_eq_true]
        · simp only [s104_e, s104_0, s104_9, s104_15, s104_20, s104_26, c_areTwo_t (d := d + 10) hn h6 ha hb hab, c3, c2'.resolve_left c3, Option.bind_some, Option.toList_some, Option.toList_none, List.cons_append, List.nil_append, true_or, or_true, if_true, if_false, i10, i01, Bool.false_eq_true]
      · simp only [s163_e, s163_0, s163_6, s163_12, s163_21, s163_24, m_areTwo_t (d := d + 9) m.1.1 h6 ha hb hab, m_in0 (L := 1) (H := 9) rfl rfl c2, Option.bind_some, Option.toList_some, Option.toList_none, List.cons_append, List.nil_append, true_or, or_true, if_true, if_false, i10, i01, Bool.false_eq_true]
    · obtain ⟨k, hk1, hk, rfl⟩ := rng (lo := 1) (hi := 9) (by omega) (by omega) c2
      have c3 : ¬ nI k < 1 := fun z => c2 (Or.inl z)
      have c4 : ¬ (9 : Int32) < nI k := fun z => c2 (Or.inr z)
      obtain ⟨A', hA'⟩ : ∃ A', A' = upd (qA (xs X)) (6 * a + b) (bd (qA (xs X) (6 * a + b) + nI k)) := ⟨_, rfl⟩
      obtain ⟨σ1, e1, L1, g1⟩ := c_provoke (d := d + 9) (x := nI k) h6 ha hb hc.1.1
      rw [← hA'] at L1
      have S1 := hc.1.lv L1 g1
      have q10 : ar σ1 5 0 10 = qq (xs X) := S1.2.2.2.2.2.2.1
      obtain ⟨σ2, hσ2⟩ : ∃ σ2, σ2 = se σ1 5 0 10 (qq (xs X) + 1) := ⟨_, rfl⟩
      have S2 : SqAt σ2 0 (sqa (xs X) A' (qq (xs X) + 1) (qp (xs X))) := by rw [hσ2]; exact S1.f10
      have g2 : Ag (SB 0) σ σ2 := g1.SA_SB.tr (by rw [hσ2]; exact SB_5)
      have ean := c_angerAt (d := d + 10) (σ := σ2) (q := 0) (show a < 6 by omega) (show b < 6 by omega)
      rw [show ar σ2 16 0 = A' from S2.1.2.2.2.1] at ean
      have m2 := hm.cb (CB.sb g2)
      have hAv : A' (6 * a + b) = bd (qA (xs X) (6 * a + b) + nI k) := by rw [hA', upd_s]
      obtain ⟨σ3, hσ3⟩ : ∃ y, y = se (se σ2 35 0 (6 * a + b) (A' (6 * a + b))) 7 0 6 (qq (xs X) + 1) := ⟨_, rfl⟩
      have f7 : ar σ3 7 0 = upd (ar σ2 7 0) 6 (qq (xs X) + 1) := by rw [hσ3]; simp only [ar_sw_t, ar_sw_s, se_def, sw_sw, ne_eq, not_false_eq_true, Nat.reduceEqDiff]
      have f35 : ar σ3 35 0 = upd (ar σ2 35 0) (6 * a + b) (A' (6 * a + b)) := by rw [hσ3]; simp only [ar_sw_t, ar_sw_s, se_def, sw_sw, ne_eq, not_false_eq_true, Nat.reduceEqDiff]
      have fo : ∀ t, t ≠ 7 → t ≠ 35 → ar σ3 t 0 = ar σ2 t 0 := fun t h7 h35 => by rw [hσ3]; simp only [se_def]; rw [ar_sw_t h7, ar_sw_t h35]
      have T3 : Tb σ3 35 A' := fun j hj => by
        rw [f35, upd_if]
        by_cases ej : j = 6 * a + b
        · rw [if_pos ej, ej]
        · rw [if_neg ej, m2.2.1 j hj, hA', upd_n ej]
      have iab := oob_nI (show 6 * a + b < 36 by omega) (show 36 ≤ 1000 by omega)
      have cab := clN (show 6 * a + b ≤ 100000 by omega)
      refine Step.mk hw (v := vI (A' (6 * a + b))) (σ1 := σ2) (σ2 := σ3) (X' := (sqa (xs X) A' (qq (xs X) + 1) (qp (xs X)), xg X, xL X, xp X, xi X, xr X, xc X, xa X)) ?_ (CB.sb g2) (hc.sq S2 g2) ?_ ?_ (m2.sq ⟨by rw [f7, upd_n (by decide)]; exact m2.1.1, fun i hi => by rw [fo 31 (by decide) (by decide)]; exact m2.1.2.1 i hi, fun i hi => by rw [fo 36 (by decide) (by decide)]; exact m2.1.2.2 i hi⟩ T3 ⟨fun i hi => by rw [fo 32 (by decide) (by decide)]; exact m2.2.2.2.2.1.1 i hi, fun i hi => by rw [fo 33 (by decide) (by decide)]; exact m2.2.2.2.2.1.2.1 i hi, fun i hi => by rw [fo 34 (by decide) (by decide)]; exact m2.2.2.2.2.1.2.2.1 i hi, by rw [f7, upd_n (by decide)]; exact m2.2.2.2.2.1.2.2.2.1, by rw [f7, upd_n (by decide)]; exact m2.2.2.2.2.1.2.2.2.2.1, by rw [f7, upd_s]; rfl, by rw [f7, upd_n (by decide)]; exact m2.2.2.2.2.1.2.2.2.2.2.2⟩ (fun t ht => fo t (by omega) (by omega)) (fun j hj => by rw [f7, upd_n (by omega)])) (hx.sq (hx.1.sqa (by rw [hA']; exact ZA_upd h6 ha hb hab hx.1.2.2.2.2.2.1) (by rw [hA']; exact R20_upd hx.1.2.2.2.2.2.2.1)) rfl rfl) (by show xr X ≤ _; omega)
      · rw [hσ2] at ean
        simp only [s104_e, s104_0, s104_9, s104_15, s104_20, s104_29, s104_39, s104_61, c_areTwo_t (d := d + 10) hn h6 ha hb hab, c3, c4, e1, q10, ean, Option.bind_some, Option.toList_some, Option.toList_none, List.cons_append, List.nil_append, true_or, or_true, if_true, if_false, i10, i01, Bool.false_eq_true]
        rw [hσ2]
      · have r35 : ar σ2 35 0 (6 * a + b) = qA (xs X) (6 * a + b) := m2.2.1 _ (by omega)
        have r6 : ar (se σ2 35 0 (6 * a + b) (A' (6 * a + b))) 7 0 6 = qq (xs X) := by rw [se_def, ar_sw_t (by decide)]; exact m2.2.2.2.2.1.2.2.2.2.2.1
        have r35' : ar (se (se σ2 35 0 (6 * a + b) (A' (6 * a + b))) 7 0 6 (qq (xs X) + 1)) 35 0 (6 * a + b) = A' (6 * a + b) := by rw [← hσ3]; exact T3 _ (by omega)
        have ebd : call (d + 11) 140 [vI (qA (xs X) (6 * a + b) + nI k)] σ2 = some (some (vI (A' (6 * a + b))), σ2) := by rw [hAv]; exact m_topped
        simp only [s163_e, s163_0, s163_6, s163_12, s163_21, s163_27, s163_48, s163_53, s163_54, s163_75, m_areTwo_t (d := d + 9) m2.1.1 h6 ha hb hab, m_in1 (L := 1) (H := 9) (lo := 1) (hi := 9) rfl rfl (by omega) hk1 hk, mul6N', addN, iab, cab, r35, ebd, r6, r35', Option.bind_some, Option.toList_some, Option.toList_none, List.cons_append, List.nil_append, true_or, or_true, if_true, if_false, i10, i01, Bool.false_eq_true]
        rw [hσ3]
      · rw [hσ3]
        refine ⟨fun t q hn => ?_, rfl⟩
        by_cases hq : q = 0
        · subst hq; simp only [se_def]; rw [ar_sw_t (by omega), ar_sw_t (by omega)]
        · simp only [se_def]; rw [ar_sw_q hq, ar_sw_q hq]
  · refine Step.rd hw hc hm hx (v := vI (-101)) (σ1 := σ) ?_ Ag.rf (fun m => ⟨σ, ?_, QF.of Ag.rf⟩)
    · simp only [s104_e, s104_0, s104_9, s104_12, c_areTwo_f (d := d + 10) hn h6 c, Option.bind_some, Option.toList_some, Option.toList_none, List.cons_append, List.nil_append, true_or, or_true, if_true, if_false, i10, i01, Bool.false_eq_true]
    · simp only [s163_e, s163_0, s163_6, s163_9, m_areTwo_f (d := d + 9) m.1.1 h6 c, Option.bind_some, Option.toList_some, Option.toList_none, List.cons_append, List.nil_append, true_or, or_true, if_true, if_false, i10, i01, Bool.false_eq_true]
theorem op_peace {x y : Int32} (hw : Wf σ) (hc : CAt σ X) (hm : MAt σ X) (hx : WfX X) : Step d 105 164 [vI x, vI y] X σ := by
  have h6 := hx.1.2.1
  have hn := hc.1.1.1
  by_cases c : isT (qn (xs X)) x y
  · obtain ⟨a, b, ha, hb, hab, rfl, rfl⟩ := c
    have ean := c_angerAt (d := d + 10) (σ := σ) (q := 0) (show a < 6 by omega) (show b < 6 by omega)
    have ean2 := c_angerAt (d := d + 10) (σ := σ) (q := 0) (show b < 6 by omega) (show a < 6 by omega)
    rw [hc.1.1.2.2.2.1] at ean ean2
    have iab := oob_nI (show 6 * a + b < 36 by omega) (show 36 ≤ 1000 by omega)
    have cab := clN (show 6 * a + b ≤ 100000 by omega)
    have iba := oob_nI (show 6 * b + a < 36 by omega) (show 36 ≤ 1000 by omega)
    have cba := clN (show 6 * b + a ≤ 100000 by omega)
    by_cases c2 : qA (xs X) (6 * a + b) + qA (xs X) (6 * b + a) = 0
    · refine Step.rd hw hc hm hx (v := vI (-103)) (σ1 := σ) ?_ Ag.rf (fun m => ⟨σ, ?_, QF.of Ag.rf⟩)
      · simp only [s105_e, s105_0, s105_9, s105_15, s105_24, s105_33, s105_39, c_areTwo_t (d := d + 10) hn h6 ha hb hab, ean, ean2, c2, Option.bind_some, Option.toList_some, Option.toList_none, List.cons_append, List.nil_append, true_or, or_true, if_true, if_false, i10, i01, Bool.false_eq_true]
      · simp only [s164_e, s164_0, s164_6, s164_12, s164_23, s164_34, s164_40, m_areTwo_t (d := d + 9) m.1.1 h6 ha hb hab, mul6N', addN, iab, cab, iba, cba, m.2.1 (6 * a + b) (by omega), m.2.1 (6 * b + a) (by omega), c2, Option.bind_some, Option.toList_some, Option.toList_none, List.cons_append, List.nil_append, true_or, or_true, if_true, if_false, i10, i01, Bool.false_eq_true]
    · obtain ⟨A', hA'⟩ : ∃ A', A' = upd (upd (qA (xs X)) (6 * a + b) 0) (6 * b + a) 0 := ⟨_, rfl⟩
      obtain ⟨σ1, e1, L1, g1⟩ := c_reconcile (d := d + 9) h6 ha hb hc.1.1
      rw [← hA'] at L1
      have S1 := hc.1.lv L1 g1
      have q11 : ar σ1 5 0 11 = qp (xs X) := S1.2.2.2.2.2.2.2
      obtain ⟨σ2, hσ2⟩ : ∃ σ2, σ2 = se σ1 5 0 11 (qp (xs X) + 1) := ⟨_, rfl⟩
      have S2 : SqAt σ2 0 (sqa (xs X) A' (qq (xs X)) (qp (xs X) + 1)) := by rw [hσ2]; exact S1.f11
      have g2 : Ag (SB 0) σ σ2 := g1.SA_SB.tr (by rw [hσ2]; exact SB_5)
      have m2 := hm.cb (CB.sb g2)
      obtain ⟨σ3, hσ3⟩ : ∃ y, y = se (se (se σ2 35 0 (6 * a + b) 0) 35 0 (6 * b + a) 0) 7 0 7 (qp (xs X) + 1) := ⟨_, rfl⟩
      have f7 : ar σ3 7 0 = upd (ar σ2 7 0) 7 (qp (xs X) + 1) := by rw [hσ3]; simp only [ar_sw_t, ar_sw_s, se_def, sw_sw, ne_eq, not_false_eq_true, Nat.reduceEqDiff]
      have f35 : ar σ3 35 0 = upd (upd (ar σ2 35 0) (6 * a + b) 0) (6 * b + a) 0 := by rw [hσ3]; simp only [ar_sw_t, ar_sw_s, se_def, sw_sw, ne_eq, not_false_eq_true, Nat.reduceEqDiff]
      have fo : ∀ t, t ≠ 7 → t ≠ 35 → ar σ3 t 0 = ar σ2 t 0 := fun t h7 h35 => by rw [hσ3]; simp only [se_def]; rw [ar_sw_t h7, ar_sw_t h35, ar_sw_t h35]
      have T3 : Tb σ3 35 A' := fun j hj => by
        rw [f35, hA', upd_if, upd_if, upd_if, upd_if, m2.2.1 j hj]
      refine Step.mk hw (v := vI (qA (xs X) (6 * a + b) + qA (xs X) (6 * b + a))) (σ1 := σ2) (σ2 := σ3) (X' := (sqa (xs X) A' (qq (xs X)) (qp (xs X) + 1), xg X, xL X, xp X, xi X, xr X, xc X, xa X)) ?_ (CB.sb g2) (hc.sq S2 g2) ?_ ?_ (m2.sq ⟨by rw [f7, upd_n (by decide)]; exact m2.1.1, fun i hi => by rw [fo 31 (by decide) (by decide)]; exact m2.1.2.1 i hi, fun i hi => by rw [fo 36 (by decide) (by decide)]; exact m2.1.2.2 i hi⟩ T3 ⟨fun i hi => by rw [fo 32 (by decide) (by decide)]; exact m2.2.2.2.2.1.1 i hi, fun i hi => by rw [fo 33 (by decide) (by decide)]; exact m2.2.2.2.2.1.2.1 i hi, fun i hi => by rw [fo 34 (by decide) (by decide)]; exact m2.2.2.2.2.1.2.2.1 i hi, by rw [f7, upd_n (by decide)]; exact m2.2.2.2.2.1.2.2.2.1, by rw [f7, upd_n (by decide)]; exact m2.2.2.2.2.1.2.2.2.2.1, by rw [f7, upd_n (by decide)]; exact m2.2.2.2.2.1.2.2.2.2.2.1, by rw [f7, upd_s]; rfl⟩ (fun t ht => fo t (by omega) (by omega)) (fun j hj => by rw [f7, upd_n (by omega)])) (hx.sq (hx.1.sqa (by rw [hA']; exact ZA_upd h6 hb ha (Ne.symm hab) (ZA_upd h6 ha hb hab hx.1.2.2.2.2.2.1)) (by rw [hA']; exact R20_0 (R20_0 hx.1.2.2.2.2.2.2.1))) rfl rfl) (by show xr X ≤ _; omega)
      · simp only [s105_e, s105_0, s105_9, s105_15, s105_24, s105_33, s105_42, s105_51, c_areTwo_t (d := d + 10) hn h6 ha hb hab, ean, ean2, c2, e1, q11, Option.bind_some, Option.toList_some, Option.toList_none, List.cons_append, List.nil_append, true_or, or_true, if_true, if_false, i10, i01, Bool.false_eq_true]
        rw [hσ2]
      · have r7 : ar (se (se σ2 35 0 (6 * a + b) 0) 35 0 (6 * b + a) 0) 7 0 7 = qp (xs X) := by simp only [se_def]; rw [ar_sw_t (by decide), ar_sw_t (by decide)]; exact m2.2.2.2.2.1.2.2.2.2.2.2
        simp only [s164_e, s164_0, s164_6, s164_12, s164_23, s164_34, s164_43, s164_55, s164_67, m_areTwo_t (d := d + 9) m2.1.1 h6 ha hb hab, mul6N', addN, iab, cab, iba, cba, m2.2.1 (6 * a + b) (by omega), m2.2.1 (6 * b + a) (by omega), c2, r7, Option.bind_some, Option.toList_some, Option.toList_none, List.cons_append, List.nil_append, true_or, or_true, if_true, if_false, i10, i01, Bool.false_eq_true]
        rw [hσ3]
      · rw [hσ3]
        refine ⟨fun t q hn => ?_, rfl⟩
        by_cases hq : q = 0
        · subst hq; simp only [se_def]; rw [ar_sw_t (by omega), ar_sw_t (by omega), ar_sw_t (by omega)]
        · simp only [se_def]; rw [ar_sw_q hq, ar_sw_q hq, ar_sw_q hq]
  · refine Step.rd hw hc hm hx (v := vI (-101)) (σ1 := σ) ?_ Ag.rf (fun m => ⟨σ, ?_, QF.of Ag.rf⟩)
    · simp only [s105_e, s105_0, s105_9, s105_12, c_areTwo_f (d := d + 10) hn h6 c, Option.bind_some, Option.toList_some, Option.toList_none, List.cons_append, List.nil_append, true_or, or_true, if_true, if_false, i10, i01, Bool.false_eq_true]
    · simp only [s164_e, s164_0, s164_6, s164_9, m_areTwo_f (d := d + 9) m.1.1 h6 c, Option.bind_some, Option.toList_some, Option.toList_none, List.cons_append, List.nil_append, true_or, or_true, if_true, if_false, i10, i01, Bool.false_eq_true]
/-- a square with other walls -/
def sqw (s : Sq) (W : Nat → Int32) : Sq := (qn s, qK s, qV s, qT s, qC s, qA s, W, qm s, qt s, qq s, qp s)
theorem SqAt.wl {q : Nat} {s : Sq} {W : Nat → Int32} (h : SqAt σ q s) (hl : Lv σ' q (qn s) (qK s) W (qA s)) (g : Ag (fun t q' => q' = q ∧ (t = 17 ∨ t = 13)) σ σ') : SqAt σ' q (sqw s W) := by
  obtain ⟨-, h2, h3, h4, h5, h6, h7, h8⟩ := h
  refine ⟨hl, ?_, ?_, ?_, ?_, ?_, ?_, ?_⟩
  · rw [g.1 12 q (by omega)]; exact h2
  · rw [g.1 14 q (by omega)]; exact h3
  · rw [g.1 15 q (by omega)]; exact h4
  · rw [g.1 5 q (by omega)]; exact h5
  · rw [g.1 5 q (by omega)]; exact h6
  · rw [g.1 5 q (by omega)]; exact h7
  · rw [g.1 5 q (by omega)]; exact h8
theorem GS.sqw {s : Sq} {a b : Nat} {w : Int32} (h : GS s) (ha : a < 6) (hb : b < 6) (hab : a ≠ b) (hw : w = 0 ∨ w = 1) : GS (sqw s (wup (qW s) a b w)) := by
  obtain ⟨h1, h2, h3, h4, h5, h6, h7, h8⟩ := h
  refine ⟨h1, h2, fun j hj => ?_, fun x y hx hy => ?_, fun x hx => ?_, h6, h7, h8⟩
  · show wup (qW s) a b w j = 0 ∨ wup (qW s) a b w j = 1
    unfold wup
    rw [upd_if, upd_if]
    split
    · exact hw
    · split
      · exact hw
      · exact h3 j hj
  · show wup (qW s) a b w (6 * x + y) = wup (qW s) a b w (6 * y + x)
    unfold wup
    rw [upd_if, upd_if, upd_if, upd_if]
    by_cases e1 : x = a ∧ y = b
    · obtain ⟨rfl, rfl⟩ := e1
      rw [if_neg (by omega), if_pos rfl, if_pos rfl]
    · by_cases e2 : x = b ∧ y = a
      · obtain ⟨rfl, rfl⟩ := e2
        rw [if_pos rfl, if_neg (by omega), if_pos rfl]
      · rw [if_neg (by omega), if_neg (by omega), if_neg (by omega), if_neg (by omega)]
        exact h4 x y hx hy
  · show wup (qW s) a b w (7 * x) = 0
    unfold wup
    rw [upd_n (by omega), upd_n (by omega)]
    exact h5 x hx
theorem op_build {x y z : Int32} (hw : Wf σ) (hc : CAt σ X) (hm : MAt σ X) (hx : WfX X) : Step d 106 166 [vI x, vI y, vI z] X σ := by
  have h6 := hx.1.2.1
  have hn := hc.1.1.1
  by_cases c : isT (qn (xs X)) x y
  · obtain ⟨a, b, ha, hb, hab, rfl, rfl⟩ := c
    have ewl := c_wallBetween (d := d + 10) (σ := σ) (q := 0) (show a < 6 by omega) (show b < 6 by omega)
    rw [hc.1.1.2.2.1] at ewl
    have iab := oob_nI (show 6 * a + b < 36 by omega) (show 36 ≤ 1000 by omega)
    have cab := clN (show 6 * a + b ≤ 100000 by omega)
    obtain ⟨w, hw01, hwz⟩ : ∃ w : Int32, (w = 0 ∨ w = 1) ∧ ((z = 0 → w = 0) ∧ (¬ z = 0 → w = 1)) := by
      by_cases cz : z = 0
      · exact ⟨0, Or.inl rfl, fun _ => rfl, fun h => absurd cz h⟩
      · exact ⟨1, Or.inr rfl, fun h => absurd h cz, fun _ => rfl⟩
    obtain ⟨σ1, e1, L1, g1⟩ := c_setWall (d := d + 10) (w := w) h6 ha hb hc.1.1
    have S1 : SqAt σ1 0 (sqw (xs X) (wup (qW (xs X)) a b w)) := hc.1.wl L1 g1
    have g1' : Ag (SB 0) σ σ1 := g1.mono (fun t q z => by unfold SB; omega)
    have m1 := hm.cb (CB.sb g1')
    obtain ⟨σ2, e2, M2, g2⟩ := m_layWall (d := d + 11) (w := w) (show a < 6 by omega) (show b < 6 by omega) m1.1
    refine Step.mk hw (v := vI (qW (xs X) (6 * a + b))) (σ1 := σ1) (σ2 := σ2) (X' := (sqw (xs X) (wup (qW (xs X)) a b w), xg X, xL X, xp X, xi X, xr X, xc X, xa X)) ?_ (CB.sb g1') (hc.sq S1 g1') ?_ (AgM.of g2 (fun t q z => by omega)) (m1.sq M2 (fun j hj => by rw [g2.1 35 0 (by omega)]; exact m1.2.1 j hj) (m1.2.2.2.2.1.fr (fun t h1 h2 => g2.1 t 0 (by omega)) (fun j _ _ => by rw [g2.1 7 0 (by omega)])) (fun t ht => g2.1 t 0 (by omega)) (fun j hj => by rw [g2.1 7 0 (by omega)])) (hx.sq (hx.1.sqw (by omega) (by omega) hab hw01) rfl rfl) (by show xr X ≤ _; omega)
    · by_cases cz : z = 0
      · have := hwz.1 cz
        subst this
        simp only [s106_e, s106_0, s106_9, s106_15, s106_24, s106_40, s106_41, s106_44, c_areTwo_t (d := d + 10) hn h6 ha hb hab, ewl, cz, e1, Option.bind_some, Option.toList_some, Option.toList_none, List.cons_append, List.nil_append, true_or, or_true, if_true, if_false, i10, i01, Bool.false_eq_true]
      · have := hwz.2 cz
        subst this
        simp only [s106_e, s106_0, s106_9, s106_15, s106_24, s106_36, s106_41, s106_44, c_areTwo_t (d := d + 10) hn h6 ha hb hab, ewl, cz, e1, Option.bind_some, Option.toList_some, Option.toList_none, List.cons_append, List.nil_append, true_or, or_true, if_true, if_false, i10, i01, Bool.false_eq_true]
    · by_cases cz : z = 0
      · have := hwz.1 cz
        subst this
        simp only [s166_e, s166_0, s166_6, s166_12, s166_23, s166_36, s166_37, s166_40, m_areTwo_t (d := d + 9) m1.1.1 h6 ha hb hab, mul6N', addN, iab, cab, m1.1.2.2 (6 * a + b) (by omega), cz, e2, Option.bind_some, Option.toList_some, Option.toList_none, List.cons_append, List.nil_append, true_or, or_true, if_true, if_false, i10, i01, Bool.false_eq_true]
      · have := hwz.2 cz
        subst this
        simp only [s166_e, s166_0, s166_6, s166_12, s166_23, s166_32, s166_37, s166_40, m_areTwo_t (d := d + 9) m1.1.1 h6 ha hb hab, mul6N', addN, iab, cab, m1.1.2.2 (6 * a + b) (by omega), cz, e2, Option.bind_some, Option.toList_some, Option.toList_none, List.cons_append, List.nil_append, true_or, or_true, if_true, if_false, i10, i01, Bool.false_eq_true]
  · refine Step.rd hw hc hm hx (v := vI (-101)) (σ1 := σ) ?_ Ag.rf (fun m => ⟨σ, ?_, QF.of Ag.rf⟩)
    · simp only [s106_e, s106_0, s106_9, s106_12, c_areTwo_f (d := d + 10) hn h6 c, Option.bind_some, Option.toList_some, Option.toList_none, List.cons_append, List.nil_append, true_or, or_true, if_true, if_false, i10, i01, Bool.false_eq_true]
    · simp only [s166_e, s166_0, s166_6, s166_9, m_areTwo_f (d := d + 9) m.1.1 h6 c, Option.bind_some, Option.toList_some, Option.toList_none, List.cons_append, List.nil_append, true_or, or_true, if_true, if_false, i10, i01, Bool.false_eq_true]
/-- a square with a new tenant -/
def sqt (s : Sq) (a : Nat) (k : Int32) : Sq := (qn s, upd (qK s) a k, qV s, qT s, qC s, rz (qn s) a (qA s), qW s, qm s, qt s, qq s, qp s)
theorem op_tenant {x y : Int32} (hw : Wf σ) (hc : CAt σ X) (hm : MAt σ X) (hx : WfX X) : Step d 107 167 [vI x, vI y] X σ := by
  have h6 := hx.1.2.1
  have hn := hc.1.1.1
  by_cases c : isH (qn (xs X)) x
  · obtain ⟨a, ha, rfl⟩ := c
    have ia := oob_nI (show a < 6 by omega) (show 6 ≤ 1000 by omega)
    have ca := cl6 (show a < 6 by omega)
    by_cases c2 : y < nI 0 ∨ nI 4 < y
    · refine Step.rd hw hc hm hx (v := vI (-102)) (σ1 := σ) ?_ Ag.rf (fun m => ⟨σ, ?_, QF.of Ag.rf⟩)
      · simp only [s107_e, s107_0, s107_8, s107_14, s107_18, s107_21, c_isHouse_t (d := d + 11) hn h6 ha, c_isKind_f c2, Option.bind_some, Option.toList_some, Option.toList_none, List.cons_append, List.nil_append, true_or, or_true, if_true, if_false, i10, i01, Bool.false_eq_true]
      · simp only [s167_e, s167_0, s167_5, s167_11, s167_20, s167_23, m_isHouse_t (d := d + 10) m.1.1 h6 ha, m_in0 (L := 0) (H := 4) rfl rfl c2, Option.bind_some, Option.toList_some, Option.toList_none, List.cons_append, List.nil_append, true_or, or_true, if_true, if_false, i10, i01, Bool.false_eq_true]
    · obtain ⟨k, -, hk, rfl⟩ := rng (lo := 0) (hi := 4) (by omega) (by omega) c2
      have eK := c_kindOf (d := d + 11) (σ := σ) (q := 0) (show a < 6 by omega)
      rw [hc.1.1.2.1] at eK
      obtain ⟨σ1, e1, L1, g1⟩ := c_moveIn (d := d + 10) (k := nI k) h6 ha hc.1.1
      have S1 : SqAt σ1 0 (sqt (xs X) a (nI k)) := by
        obtain ⟨-, h2, h3, h4, h5, h6', h7, h8⟩ := hc.1
        refine ⟨L1, ?_, ?_, ?_, ?_, ?_, ?_, ?_⟩
        · rw [g1.1 12 0 (by omega)]; exact h2
        · rw [g1.1 14 0 (by omega)]; exact h3
        · rw [g1.1 15 0 (by omega)]; exact h4
        · rw [g1.1 5 0 (by omega)]; exact h5
        · rw [g1.1 5 0 (by omega)]; exact h6'
        · rw [g1.1 5 0 (by omega)]; exact h7
        · rw [g1.1 5 0 (by omega)]; exact h8
      have g1' : Ag (SB 0) σ σ1 := g1.mono (fun t q z => by unfold SB; omega)
      have m1 := hm.cb (CB.sb g1')
      obtain ⟨σ2, hσ2⟩ : ∃ σ2, σ2 = se σ1 31 0 a (nI k) := ⟨_, rfl⟩
      have f31 : ar σ2 31 0 = upd (ar σ1 31 0) a (nI k) := by rw [hσ2]; simp only [ar_sw_t, ar_sw_s, se_def, sw_sw, ne_eq, not_false_eq_true, Nat.reduceEqDiff]
      have fo : ∀ t, t ≠ 31 → ar σ2 t 0 = ar σ1 t 0 := fun t h => by rw [hσ2, se_def, ar_sw_t h]
      have loop : ∀ f b, b + f = qn (xs X) → ∀ σ : St, ar σ 7 0 3 = nI (qn (xs X)) → ∃ σ', exec (d + 12) 167 43 [vR 7 0, vI (nI a), vI (nI k), vI (qK (xs X) a), vI (nI b)] [] σ = some (some (vI (qK (xs X) a)), σ') ∧ (∀ j, ar σ' 35 0 j = if j / 6 = a ∧ b ≤ j % 6 ∧ j % 6 < qn (xs X) then 0 else ar σ 35 0 j) ∧ Ag (fun t q => t = 35 ∧ q = 0) σ σ' := by
        intro f
        induction f with
        | zero =>
          intro b hb σ hn
          have eb : b = qn (xs X) := by omega
          refine ⟨σ, by rw [s167_43, hn, eb, if_neg nlt, s167_71], fun j => by rw [if_neg (by omega)], Ag.rf⟩
        | succ f ih =>
          intro b hb σ hn
          have iv : ¬ oob (nI (6 * a + b)) 36 = true := by rw [oob_nI (by omega) (by omega)]; exact Bool.false_ne_true
          have cv := clN (j := 6 * a + b) (by omega)
          have g1 : Ag (fun t q => t = 35 ∧ q = 0) σ (se σ 35 0 (6 * a + b) 0) := Ag.sw ⟨rfl, rfl⟩
          obtain ⟨σ3, e3, q3, g3⟩ := ih (b + 1) (by omega) (se σ 35 0 (6 * a + b) 0) (by rw [g1.1 7 0 (by omega)]; exact hn)
          refine ⟨σ3, ?_, fun j => ?_, g1.tr g3⟩
          · rw [s167_43, hn, if_pos (ltn (show b < qn (xs X) by omega) (by omega)), s167_52, mul6N', addN, if_neg iv, cv, s167_65, add1N]
            exact e3
          · rw [q3 j, se_def, ar_sw_s, upd_if]
            by_cases e1 : j = 6 * a + b
            · rw [if_pos e1, if_neg (by omega), if_pos (by omega)]
            · rw [if_neg e1]
              by_cases e2 : j / 6 = a ∧ b ≤ j % 6 ∧ j % 6 < qn (xs X)
              · rw [if_pos e2, if_pos (by omega)]
              · rw [if_neg e2, if_neg (by omega)]
      obtain ⟨σ3, e3, q3, g3⟩ := loop (qn (xs X)) 0 (by omega) σ2 (by rw [fo 7 (by decide)]; exact m1.1.1)
      have g2 : Ag (fun t q => (t = 31 ∨ t = 35) ∧ q = 0) σ1 σ3 := Ag.tr (by rw [hσ2]; exact Ag.sw ⟨Or.inl rfl, rfl⟩) (g3.mono (fun t q z => by omega))
      refine Step.mk hw (v := vI (qK (xs X) a)) (σ1 := σ1) (σ2 := σ3) (X' := (sqt (xs X) a (nI k), xg X, xL X, xp X, xi X, xr X, xc X, xa X)) ?_ (CB.sb g1') (hc.sq S1 g1') ?_ (AgM.of g2 (fun t q z => by omega)) (m1.sq ⟨by rw [g2.1 7 0 (by omega)]; exact m1.1.1, fun i hi => ?_, fun i hi => by rw [g2.1 36 0 (by omega)]; exact m1.1.2.2 i hi⟩ (fun j hj => ?_) (m1.2.2.2.2.1.fr (fun t h1 h2 => g2.1 t 0 (by omega)) (fun j _ _ => by rw [g2.1 7 0 (by omega)])) (fun t ht => g2.1 t 0 (by omega)) (fun j hj => by rw [g2.1 7 0 (by omega)])) (hx.sq ⟨hx.1.1, h6, hx.1.2.2.1, hx.1.2.2.2.1, hx.1.2.2.2.2.1, fun j hj hc => ?_, fun j hj => ?_, hx.1.2.2.2.2.2.2.2⟩ rfl rfl) (by show xr X ≤ _; omega)
      · simp only [s107_e, s107_0, s107_8, s107_14, s107_18, s107_24, s107_32, s107_42, c_isHouse_t (d := d + 11) hn h6 ha, c_isKind_t (show k < 5 by omega), eK, e1, Option.bind_some, Option.toList_some, Option.toList_none, List.cons_append, List.nil_append, true_or, or_true, if_true, if_false, i10, i01, Bool.false_eq_true]
      · have e3' : exec (d + 12) 167 43 [vR 7 0, vI (nI a), vI (nI k), vI (qK (xs X) a), vI 0] [] σ2 = some (some (vI (qK (xs X) a)), σ3) := e3
        rw [hσ2] at e3'
        simp only [s167_e, s167_0, s167_5, s167_11, s167_20, s167_26, s167_32, s167_40, m_isHouse_t (d := d + 10) m1.1.1 h6 ha, m_in1 (L := 0) (H := 4) (lo := 0) (hi := 4) rfl rfl (by omega) (Nat.zero_le k) hk, ia, ca, m1.1.2.1 a (by omega), e3', Option.bind_some, Option.toList_some, Option.toList_none, List.cons_append, List.nil_append, true_or, or_true, if_true, if_false, i10, i01, Bool.false_eq_true]
      · show ar σ3 31 0 i = upd (qK (xs X)) a (nI k) i
        rw [g3.1 31 0 (by omega), f31, upd_if, upd_if]
        split
        · rfl
        · exact m1.1.2.1 i hi
      · show ar σ3 35 0 j = rz (qn (xs X)) a (qA (xs X)) j
        rw [q3 j, fo 35 (by decide), m1.2.1 j hj]
        unfold rz
        by_cases e : j / 6 = a ∧ j % 6 < qn (xs X)
        · rw [if_pos e, if_pos ⟨e.1, Nat.zero_le _, e.2⟩]
        · rw [if_neg e, if_neg (fun z => e ⟨z.1, z.2.2⟩)]
      · show rz (qn (xs X)) a (qA (xs X)) j = 0
        unfold rz
        split
        · rfl
        · exact hx.1.2.2.2.2.2.1 j hj hc
      · show ∃ v, v ≤ 20 ∧ rz (qn (xs X)) a (qA (xs X)) j = nI v
        unfold rz
        split
        · exact ⟨0, by omega, rfl⟩
        · exact hx.1.2.2.2.2.2.2.1 j hj
  · refine Step.rd hw hc hm hx (v := vI (-101)) (σ1 := σ) ?_ Ag.rf (fun m => ⟨σ, ?_, QF.of Ag.rf⟩)
    · simp only [s107_e, s107_0, s107_8, s107_11, c_isHouse_f (d := d + 11) hn h6 c, Option.bind_some, Option.toList_some, Option.toList_none, List.cons_append, List.nil_append, true_or, or_true, if_true, if_false, i10, i01, Bool.false_eq_true]
    · simp only [s167_e, s167_0, s167_5, s167_8, m_isHouse_f (d := d + 10) m.1.1 h6 c, Option.bind_some, Option.toList_some, Option.toList_none, List.cons_append, List.nil_append, true_or, or_true, if_true, if_false, i10, i01, Bool.false_eq_true]
end O3

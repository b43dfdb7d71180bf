/-! Calls of both: what is seen, summers. -/
section O6
variable {d : Nat} {σ σ' : St} {X : Ab}
theorem CAt.gg {g : Sg} (h : CAt σ X) (hg : SgAt σ' 0 g) (e : Ag (GB 0) σ σ') : CAt σ' (xs X, g, xL X, xp X, xi X, xr X, xc X, xa X) := by
  obtain ⟨h1, h2, h3, h4, h5, h6, h7⟩ := h
  have e6 := e.1 6 0 (by unfold GB; omega)
  exact ⟨h1.fr (fun t ht => e.1 t 0 (by unfold GB; omega)), hg, h3.fr (fun t ht => e.1 t 0 (by unfold GB; omega)), h4.fr (fun t ht => e.1 t 1 (by unfold GB; omega)) (by rw [e6]), by rw [e6]; exact h5, by rw [e6]; exact h6, by rw [e6]; exact h7⟩
theorem MAt.gg {g : Sg} (h : MAt σ X) (hg : Sm σ' g) (e : ∀ t, t ≠ 7 → t ≠ 44 → ar σ' t 0 = ar σ t 0) (e7 : ∀ j, j ≠ 24 → ar σ' 7 0 j = ar σ 7 0 j) : MAt σ' (xs X, g, xL X, xp X, xi X, xr X, xc X, xa X) := by
  obtain ⟨h1, h2, h3, h4, h5, h6, h7, h8, h9⟩ := h
  exact ⟨h1.fr (e7 3 (by omega)) (e 31 (by omega) (by omega)) (e 36 (by omega) (by omega)), fun j hj => by rw [e 35 (by omega) (by omega)]; exact h2 j hj, hg, h4.fr (e7 1 (by omega)) (e 30 (by omega) (by omega)), h5.fr (fun t h1 h2 => e t (by omega) (by omega)) (fun j h1 h2 => e7 j (by omega)), h6.fr (fun t h1 h2 => e t (by omega) (by omega)) (fun j h1 h2 => e7 j (by omega)), by rw [e7 8 (by omega)]; exact h7, by rw [e7 20 (by omega)]; exact h8, by rw [e7 23 (by omega)]; exact h9⟩
theorem CB.gb {q : Nat} (g : Ag (GB q) σ σ') : Ag CB σ σ' := g.mono (fun t q z => by unfold GB at z; unfold CB; omega)
/-- what may be seen of a house -/
theorem op_see {x y z : Int32} (hw : Wf σ) (hc : CAt σ X) (hm : MAt σ X) (hx : WfX X) : Step d 115 191 [vI x, vI y, vI z] X σ := by
  have h6 := hx.1.2.1
  have hn := hc.1.1.1
  by_cases c : isH (qn (xs X)) x
  · obtain ⟨a, ha, rfl⟩ := c
    by_cases cf : ∃ o : Option Nat, (∀ b, o = some b → b < qn (xs X) ∧ a ≠ b) ∧ y = en o
    · obtain ⟨o, ho, rfl⟩ := cf
      have cst : ∀ σ, ar σ 5 0 7 = nI (qn (xs X)) → call (d + 12) 115 [vR 6 0, vI (nI a), vI (en o), vI z] σ = exec (d + 12) 115 34 [vR 6 0, vI (nI a), vI (en o), vI z] [] σ := fun σ hn => by
        cases o with
        | none => simp only [s115_e, s115_0, s115_8, s115_14, c_isHouse_t (d := d + 11) hn h6 ha, en_none, Option.bind_some, Option.toList_some, Option.toList_none, List.cons_append, List.nil_append, true_or, or_true, if_true, if_false, i10, i01, Bool.false_eq_true]
        | some b =>
          obtain ⟨hb, hab⟩ := ho b rfl
          simp only [s115_e, s115_0, s115_8, s115_14, s115_19, s115_28, c_isHouse_t (d := d + 11) hn h6 ha, en_some, n1N (show b ≤ 100000 by omega), c_areTwo_t (d := d + 10) hn h6 ha hb hab, Option.bind_some, Option.toList_some, Option.toList_none, List.cons_append, List.nil_append, true_or, or_true, if_true, if_false, i10, i01, Bool.false_eq_true]
      have mst : ∀ σ, MAt σ X → call (d + 12) 191 [vR 7 0, vI (nI a), vI (en o), vI z] σ = exec (d + 12) 191 25 [vR 7 0, vI (nI a), vI (en o), vI z] [] σ := fun σ m => by
        cases o with
        | none => simp only [s191_e, s191_0, s191_5, s191_8, m_isHouse_t (d := d + 10) m.1.1 h6 ha, en_none, Option.bind_some, Option.toList_some, Option.toList_none, List.cons_append, List.nil_append, true_or, or_true, if_true, if_false, i10, i01, Bool.false_eq_true]
        | some b =>
          obtain ⟨hb, hab⟩ := ho b rfl
          simp only [s191_e, s191_0, s191_5, s191_8, s191_13, s191_19, m_isHouse_t (d := d + 10) m.1.1 h6 ha, en_some, n1N (show b ≤ 100000 by omega), m_areTwo_t (d := d + 9) m.1.1 h6 ha hb hab, Option.bind_some, Option.toList_some, Option.toList_none, List.cons_append, List.nil_append, true_or, or_true, if_true, if_false, i10, i01, Bool.false_eq_true]
      rcases rcase z (lo := 0) (hi := 5) (by omega) (by omega) with c | ⟨k, -, hk, rfl⟩
      · refine Step.rd hw hc hm hx (v := vI (-102)) (σ1 := σ) ?_ Ag.rf (fun m => ⟨σ, ?_, QF.of Ag.rf⟩)
        · refine (cst σ hn).trans ?_
          simp only [s115_34, s115_38, s115_41, c_isSoon_f c, Option.bind_some, Option.toList_some, Option.toList_none, List.cons_append, List.nil_append, true_or, or_true, if_true, if_false, i10, i01, Bool.false_eq_true]
        · refine (mst σ m).trans ?_
          simp only [s191_25, s191_34, s191_37, m_in0 (L := 0) (H := 5) rfl rfl c, Option.bind_some, Option.toList_some, Option.toList_none, List.cons_append, List.nil_append, true_or, or_true, if_true, if_false, i10, i01, Bool.false_eq_true]
      · have efl := c_seenFull (d := d + 11) hc.2.1
        have hg8 := hx.2.2.1
        have eq8 : (nI (gl (xg X)) = 8) = (gl (xg X) = 8) := by rw [show (8 : Int32) = nI 8 from rfl]; exact eqN (by omega) (by omega)
        have i1 : ∀ σ, call (d + 11) 131 [vL (nI k).toInt64, vL 0, vL 5] σ = some (some (vI 1), σ) := fun σ => m_in1 (L := 0) (H := 5) (lo := 0) (hi := 5) rfl rfl (by omega) (Nat.zero_le k) hk
        by_cases c8 : gl (xg X) = 8
        · rw [if_pos c8] at efl
          refine Step.rd hw hc hm hx (v := vI (-104)) (σ1 := σ) ?_ Ag.rf (fun m => ⟨σ, ?_, QF.of Ag.rf⟩)
          · refine (cst σ hn).trans ?_
            simp only [s115_34, s115_38, s115_44, s115_51, s115_54, c_isSoon_t hk, efl, Option.bind_some, Option.toList_some, Option.toList_none, List.cons_append, List.nil_append, true_or, or_true, if_true, if_false, i10, i01, Bool.false_eq_true]
          · refine (mst σ m).trans ?_
            simp only [s191_25, s191_34, s191_40, s191_49, i1, show ar σ 7 0 24 = nI (gl (xg X)) from m.2.2.1.1, eq8.trans (eq_true c8), Option.bind_some, Option.toList_some, Option.toList_none, List.cons_append, List.nil_append, true_or, or_true, if_true, if_false, i10, i01, Bool.false_eq_true]
        · rw [if_neg c8] at efl
          obtain ⟨σ1, e1, G1, g1⟩ := c_seenAdd (d := d + 10) (a := a) (m := k) (o := o) hc.2.1 c8
          have m1 := hm.cb (CB.gb g1)
          obtain ⟨l, hl⟩ : ∃ l, gl (xg X) = l := ⟨_, rfl⟩
          rw [hl] at hg8 eq8 c8 e1
          have r24 : ar σ1 7 0 24 = nI l := by rw [← hl]; exact m1.2.2.1.1
          obtain ⟨σ2, hσ2⟩ : ∃ σ2, σ2 = se (se (se (se σ1 44 0 (3 * l) (nI a)) 44 0 (3 * l + 1) (en o)) 44 0 (3 * l + 2) (nI k)) 7 0 24 (nI (l + 1)) := ⟨_, rfl⟩
          have f7 : ar σ2 7 0 = upd (ar σ1 7 0) 24 (nI (l + 1)) := by rw [hσ2]; simp only [ar_sw_t, ar_sw_s, se_def, sw_sw, ne_eq, not_false_eq_true, Nat.reduceEqDiff]
          have f44 : ar σ2 44 0 = upd (upd (upd (ar σ1 44 0) (3 * l) (nI a)) (3 * l + 1) (en o)) (3 * l + 2) (nI k) := by rw [hσ2]; simp only [ar_sw_t, ar_sw_s, se_def, sw_sw, ne_eq, not_false_eq_true, Nat.reduceEqDiff]
          have fo : ∀ t, t ≠ 7 → t ≠ 44 → ar σ2 t 0 = ar σ1 t 0 := fun t h7 h44 => by rw [hσ2]; simp only [se_def]; rw [ar_sw_t h7, ar_sw_t h44, ar_sw_t h44, ar_sw_t h44]
          have g2 : Ag (fun t q => (t = 7 ∨ t = 44) ∧ q = 0) σ1 σ2 := by
            rw [hσ2]
            exact (((Ag.sw ⟨Or.inr rfl, rfl⟩).tr (Ag.sw ⟨Or.inr rfl, rfl⟩)).tr (Ag.sw ⟨Or.inr rfl, rfl⟩)).tr (Ag.sw ⟨Or.inl rfl, rfl⟩)
          have S2 : Sm σ2 (addG (xg X) a o k) := by
            refine ⟨by rw [f7, upd_s]; show nI (l + 1) = nI (gl (xg X) + 1); rw [hl], by show gl (xg X) + 1 ≤ 8; omega, fun i hi => ?_⟩
            have hi' : i < gl (xg X) + 1 := hi
            rw [hl] at hi'
            show ar σ2 44 0 (3 * i) = nI (if i = gl (xg X) then a else gh (xg X) i) ∧ ar σ2 44 0 (3 * i + 1) = en (if i = gl (xg X) then o else gf (xg X) i) ∧ ar σ2 44 0 (3 * i + 2) = nI (if i = gl (xg X) then k else gm (xg X) i)
            rw [f44, hl]
            by_cases ei : i = l
            · rw [if_pos ei, if_pos ei, if_pos ei, ei]
              refine ⟨?_, ?_, ?_⟩
              · rw [upd_n (by omega), upd_n (by omega), upd_s]
              · rw [upd_n (by omega), upd_s]
              · rw [upd_s]
            · rw [if_neg ei, if_neg ei, if_neg ei]
              obtain ⟨s1, s2, s3⟩ := m1.2.2.1.2.2 i (by omega)
              refine ⟨?_, ?_, ?_⟩
              · rw [upd_n (by omega), upd_n (by omega), upd_n (by omega)]; exact s1
              · rw [upd_n (by omega), upd_n (by omega), upd_n (by omega)]; exact s2
              · rw [upd_n (by omega), upd_n (by omega), upd_n (by omega)]; exact s3
          refine Step.mk hw (v := vI (nI (l + 1))) (σ1 := σ1) (σ2 := σ2) (X' := (xs X, addG (xg X) a o k, xL X, xp X, xi X, xr X, xc X, xa X)) ?_ (CB.gb g1) (hc.gg G1 g1) ?_ (AgM.of g2 (fun t q z => by omega)) (m1.gg S2 fo (fun j hj => by rw [f7, upd_n hj])) ⟨hx.1, fun i hi => ?_, by show gl (xg X) + 1 ≤ 8; omega, hx.2.2.2⟩ (by show xr X ≤ _; omega)
          · refine (cst σ hn).trans ?_
            simp only [s115_34, s115_38, s115_44, s115_51, s115_57, s115_67, c_isSoon_t hk, efl, e1, Option.bind_some, Option.toList_some, Option.toList_none, List.cons_append, List.nil_append, true_or, or_true, if_true, if_false, i10, i01, Bool.false_eq_true]
          · refine (mst σ1 m1).trans ?_
            have i0 := oob_nI (show 3 * l < 24 by omega) (show 24 ≤ 1000 by omega)
            have i1' := oob_nI (show 3 * l + 1 < 24 by omega) (show 24 ≤ 1000 by omega)
            have i2 := oob_nI (show 3 * l + 2 < 24 by omega) (show 24 ≤ 1000 by omega)
            have c0' := clN (show 3 * l ≤ 100000 by omega)
            have c1' := clN (show 3 * l + 1 ≤ 100000 by omega)
            have c2' := clN (show 3 * l + 2 ≤ 100000 by omega)
            have a2 : nI (3 * l) + 2 = nI (3 * l + 2) := by rw [show (2 : Int32) = nI 2 from rfl, addN]
            have q1 : ar (se σ1 44 0 (3 * l) (nI a)) 7 0 24 = nI l := by rw [se_def, ar_sw_t (by decide)]; exact r24
            have q2 : ar (se (se σ1 44 0 (3 * l) (nI a)) 44 0 (3 * l + 1) (en o)) 7 0 24 = nI l := by simp only [se_def]; rw [ar_sw_t (by decide), ar_sw_t (by decide)]; exact r24
            have q3 : ar (se (se (se σ1 44 0 (3 * l) (nI a)) 44 0 (3 * l + 1) (en o)) 44 0 (3 * l + 2) (nI k)) 7 0 24 = nI l := by simp only [se_def]; rw [ar_sw_t (by decide), ar_sw_t (by decide), ar_sw_t (by decide)]; exact r24
            have q4 : ar (se (se (se (se σ1 44 0 (3 * l) (nI a)) 44 0 (3 * l + 1) (en o)) 44 0 (3 * l + 2) (nI k)) 7 0 24 (nI (l + 1))) 7 0 24 = nI (l + 1) := by rw [← hσ2, f7, upd_s]
            simp only [s191_25, s191_34, s191_40, s191_52, s191_64, s191_78, s191_92, i1, r24, eq8.trans (eq_false c8), mul3N', i0, c0', q1, add1N, i1', c1', q2, a2, i2, c2', q3, q4, Option.bind_some, Option.toList_some, Option.toList_none, List.cons_append, List.nil_append, true_or, or_true, if_true, if_false, i10, i01, Bool.false_eq_true]
            rw [hσ2]
          · have hi' : i < gl (xg X) + 1 := hi
            show (if i = gl (xg X) then a else gh (xg X) i) < qn (xs X) ∧ (∀ b, (if i = gl (xg X) then o else gf (xg X) i) = some b → b < qn (xs X)) ∧ (if i = gl (xg X) then k else gm (xg X) i) < 6
            by_cases ei : i = gl (xg X)
            · rw [if_pos ei, if_pos ei, if_pos ei]
              exact ⟨ha, fun b hb => (ho b hb).1, by omega⟩
            · rw [if_neg ei, if_neg ei, if_neg ei]
              exact hx.2.1 i (by omega)
    · have y1 : ¬ y = -1 := fun z => cf ⟨none, fun b h => (by cases h), z⟩
      have nT : ¬ isT (qn (xs X)) (nI a) y := by
        rintro ⟨a', b, ha', hb, hab, e1, e2⟩
        rw [eqN (by omega) (by omega)] at e1
        exact cf ⟨some b, fun b' h => by cases h; exact ⟨hb, by omega⟩, e2⟩
      refine Step.rd hw hc hm hx (v := vI (-101)) (σ1 := σ) ?_ Ag.rf (fun m => ⟨σ, ?_, QF.of Ag.rf⟩)
      · simp only [s115_e, s115_0, s115_8, s115_14, s115_19, s115_28, s115_31, c_isHouse_t (d := d + 11) hn h6 ha, y1, c_areTwo_f (d := d + 10) hn h6 nT, Option.bind_some, Option.toList_some, Option.toList_none, List.cons_append, List.nil_append, true_or, or_true, if_true, if_false, i10, i01, Bool.false_eq_true]
      · simp only [s191_e, s191_0, s191_5, s191_8, s191_13, s191_19, s191_22, m_isHouse_t (d := d + 10) m.1.1 h6 ha, y1, m_areTwo_f (d := d + 9) m.1.1 h6 nT, Option.bind_some, Option.toList_some, Option.toList_none, List.cons_append, List.nil_append, true_or, or_true, if_true, if_false, i10, i01, Bool.false_eq_true]
  · refine Step.rd hw hc hm hx (v := vI (-101)) (σ1 := σ) ?_ Ag.rf (fun m => ⟨σ, ?_, QF.of Ag.rf⟩)
    · simp only [s115_e, s115_0, s115_8, s115_11, c_isHouse_f (d := d + 11) hn h6 c, Option.bind_some, Option.toList_some, Option.toList_none, List.cons_append, List.nil_append, true_or, or_true, if_true, if_false, i10, i01, Bool.false_eq_true]
    · simp only [s191_e, s191_0, s191_5, s191_22, m_isHouse_f (d := d + 10) m.1.1 h6 c, Option.bind_some, Option.toList_some, Option.toList_none, List.cons_append, List.nil_append, true_or, or_true, if_true, if_false, i10, i01, Bool.false_eq_true]
theorem op_forget (hw : Wf σ) (hc : CAt σ X) (hm : MAt σ X) (hx : WfX X) : Step d 116 192 [] X σ := by
  obtain ⟨σ1, e1, G1, g1⟩ := c_seenClear (d := d + 11) hc.2.1
  have m1 := hm.cb (CB.gb g1)
  have f7 : ar (se σ1 7 0 24 0) 7 0 = upd (ar σ1 7 0) 24 0 := by simp only [ar_sw_t, ar_sw_s, se_def, sw_sw, ne_eq, not_false_eq_true, Nat.reduceEqDiff]
  have fo : ∀ t, t ≠ 7 → ar (se σ1 7 0 24 0) t 0 = ar σ1 t 0 := fun t h7 => by rw [se_def, ar_sw_t h7]
  refine Step.mk hw (v := vI (nI (gl (xg X)))) (σ1 := σ1) (σ2 := se σ1 7 0 24 0) (X' := (xs X, (0, gh (xg X), gf (xg X), gm (xg X)), xL X, xp X, xi X, xr X, xc X, xa X)) ?_ (CB.gb g1) (hc.gg G1 g1) ?_ (AgM.of (S := fun t q => t = 7 ∧ q = 0) (Ag.sw ⟨rfl, rfl⟩) (fun t q z => ⟨z.2, Or.inl z.1⟩)) (m1.gg ⟨by rw [f7, upd_s]; rfl, by show 0 ≤ 8; omega, fun i hi => by have : i < 0 := hi; omega⟩ (fun t h7 _ => fo t h7) (fun j hj => by rw [f7, upd_n hj])) ⟨hx.1, fun i hi => by have : i < 0 := hi; omega, by show 0 ≤ 8; omega, hx.2.2.2⟩ (by show xr X ≤ _; omega)
  · simp only [s116_e, s116_0, s116_7, e1, Option.bind_some, Option.toList_some, Option.toList_none, List.cons_append, List.nil_append, true_or, or_true, if_true, if_false, i10, i01, Bool.false_eq_true]
  · rw [s192_e, s192_0, m1.2.2.1.1]
theorem op_span {x y z : Int32} (hw : Wf σ) (hc : CAt σ X) (hm : MAt σ X) (hx : WfX X) : Step d 117 199 [vI x, vI y, vI z] X σ := by
  have h6 := hx.1.2.1
  have hn := hc.1.1.1
  by_cases c : isT (qn (xs X)) x y
  · obtain ⟨a, b, ha, hb, hab, rfl, rfl⟩ := c
    rcases rcase z (lo := 0) (hi := 3) (by omega) (by omega) with c | ⟨w, -, hw3, rfl⟩
    · refine Step.rd hw hc hm hx (v := vI (-102)) (σ1 := σ) ?_ Ag.rf (fun m => ⟨σ, ?_, QF.of Ag.rf⟩)
      · by_cases c1 : z < 0
        · simp only [s117_e, s117_0, s117_9, s117_15, s117_24, c_areTwo_t (d := d + 10) hn h6 ha hb hab, c1, Option.bind_some, Option.toList_some, Option.toList_none, List.cons_append, List.nil_append, true_or, or_true, if_true, if_false, i10, i01, Bool.false_eq_true]
        · have c2 : (3 : Int32) < z := c.resolve_left c1
          simp only [s117_e, s117_0, s117_9, s117_15, s117_19, s117_24, c_areTwo_t (d := d + 10) hn h6 ha hb hab, c1, c2, Option.bind_some, Option.toList_some, Option.toList_none, List.cons_append, List.nil_append, true_or, or_true, if_true, if_false, i10, i01, Bool.false_eq_true]
      · simp only [s199_e, s199_0, s199_6, s199_12, s199_21, s199_34, s199_36, m_areTwo_t (d := d + 9) m.1.1 h6 ha hb hab, m_in0 (L := 0) (H := 3) rfl rfl c, Option.bind_some, Option.toList_some, Option.toList_none, List.cons_append, List.nil_append, true_or, or_true, if_true, if_false, i10, i01, Bool.false_eq_true]
    · have w0 : ¬ nI w < 0 := nI_pos (by omega)
      have w3 : ¬ (3 : Int32) < nI w := fun z => by
        have := (nI_ltI (a := 3) (by omega) (show w < 2 ^ 31 by omega)).mp z
        omega
      obtain ⟨σ1, e1, G1, g1⟩ := c_find (d := d + 7) h6 ha hb hx.2.1 hc.2.1 hc.1.1 hw
      have e2 := c_guessFound (d := d + 9) (x := w) (by omega) G1
      refine Step.rd hw hc hm hx (v := vI (gAn (qn (xs X)) (qK (xs X)) (qW (xs X)) (qA (xs X)) a b (xg X) w)) (σ1 := σ1) ?_ g1 (fun m => ?_)
      · simp only [s117_e, s117_0, s117_9, s117_15, s117_19, s117_27, s117_44, s117_52, c_areTwo_t (d := d + 10) hn h6 ha hb hab, w0, w3, e1, e2, Option.bind_some, Option.toList_some, Option.toList_none, List.cons_append, List.nil_append, true_or, or_true, if_true, if_false, i10, i01, Bool.false_eq_true]
      · obtain ⟨σ2, e3, g3⟩ := m_spanOf (d := d + 7) h6 ha hb hab hw3 hx.2.1 hx.1.2.2.1 hx.1.2.2.2.2.2.1 m.1 m.2.1 m.2.2.1
        refine ⟨σ2, ?_, QF.of g3⟩
        simp only [s199_e, s199_0, s199_6, s199_12, s199_21, s199_24, s199_31, s199_36, m_areTwo_t (d := d + 9) m.1.1 h6 ha hb hab, m_in1 (L := 0) (H := 3) (lo := 0) (hi := 3) rfl rfl (by omega) (Nat.zero_le w) hw3, e3, Option.bind_some, Option.toList_some, Option.toList_none, List.cons_append, List.nil_append, true_or, or_true, if_true, if_false, i10, i01, Bool.false_eq_true]
  · refine Step.rd hw hc hm hx (v := vI (-101)) (σ1 := σ) ?_ Ag.rf (fun m => ⟨σ, ?_, QF.of Ag.rf⟩)
    · simp only [s117_e, s117_0, s117_9, s117_12, c_areTwo_f (d := d + 10) hn h6 c, Option.bind_some, Option.toList_some, Option.toList_none, List.cons_append, List.nil_append, true_or, or_true, if_true, if_false, i10, i01, Bool.false_eq_true]
    · simp only [s199_e, s199_0, s199_6, s199_9, m_areTwo_f (d := d + 9) m.1.1 h6 c, Option.bind_some, Option.toList_some, Option.toList_none, List.cons_append, List.nil_append, true_or, or_true, if_true, if_false, i10, i01, Bool.false_eq_true]
theorem op_summers {x y z : Int32} (hw : Wf σ) (hc : CAt σ X) (hm : MAt σ X) (hx : WfX X) : Step d 118 201 [vI x, vI y, vI z] X σ := by
  have h6 := hx.1.2.1
  have hn := hc.1.1.1
  rcases rcase x (lo := 1) (hi := 40) (by omega) (by omega) with c | ⟨m, hm1, hm40, rfl⟩
  · refine Step.rd hw hc hm hx (v := vI (-102)) (σ1 := σ) ?_ Ag.rf (fun m => ⟨σ, ?_, QF.of Ag.rf⟩)
    · rw [s118_e, s118_0]
      by_cases c1 : x < 1
      · rw [if_pos c1, s118_15]
      · rw [if_neg c1, s118_5, if_pos (show (40 : Int32) < x from c.resolve_left c1), s118_15]
    · simp only [s201_e, s201_0, s201_9, s201_28, m_in0 (L := 1) (H := 40) rfl rfl c, Option.bind_some, Option.toList_some, Option.toList_none, List.cons_append, List.nil_append, true_or, or_true, if_true, if_false, i10, i01, Bool.false_eq_true]
  · have b1 : ¬ nI m < 1 := fun z => by
      have := (nI_ltI (b := 1) (show m < 2 ^ 31 by omega) (by omega)).mp z
      omega
    have b40 : ¬ (40 : Int32) < nI m := fun z => by
      have := (nI_ltI (a := 40) (by omega) (show m < 2 ^ 31 by omega)).mp z
      omega
    have i1 : ∀ σ, call (d + 11) 131 [vL (nI m).toInt64, vL 1, vL 40] σ = some (some (vI 1), σ) := fun σ => m_in1 (L := 1) (H := 40) (lo := 1) (hi := 40) rfl rfl (by omega) hm1 hm40
    by_cases cy : y < 0
    · refine Step.rd hw hc hm hx (v := vI (-102)) (σ1 := σ) ?_ Ag.rf (fun m => ⟨σ, ?_, QF.of Ag.rf⟩)
      · simp only [s118_e, s118_0, s118_5, s118_11, s118_15, b1, b40, cy, Option.bind_some, Option.toList_some, Option.toList_none, List.cons_append, List.nil_append, true_or, or_true, if_true, if_false, i10, i01, Bool.false_eq_true]
      · simp only [s201_e, s201_0, s201_9, s201_12, s201_28, i1, cy, Option.bind_some, Option.toList_some, Option.toList_none, List.cons_append, List.nil_append, true_or, or_true, if_true, if_false, i10, i01, Bool.false_eq_true]
    · obtain ⟨s, hs, rfl⟩ := nI_of cy
      rcases rcase z (lo := 0) (hi := 2) (by omega) (by omega) with c | ⟨w, -, hw2, rfl⟩
      · refine Step.rd hw hc hm hx (v := vI (-102)) (σ1 := σ) ?_ Ag.rf (fun m => ⟨σ, ?_, QF.of Ag.rf⟩)
        · by_cases c1 : z < 0
          · simp only [s118_e, s118_0, s118_5, s118_11, s118_18, s118_27, b1, b40, cy, c1, Option.bind_some, Option.toList_some, Option.toList_none, List.cons_append, List.nil_append, true_or, or_true, if_true, if_false, i10, i01, Bool.false_eq_true]
          · have c2 : (2 : Int32) < z := c.resolve_left c1
            simp only [s118_e, s118_0, s118_5, s118_11, s118_18, s118_22, s118_27, b1, b40, cy, c1, c2, Option.bind_some, Option.toList_some, Option.toList_none, List.cons_append, List.nil_append, true_or, or_true, if_true, if_false, i10, i01, Bool.false_eq_true]
        · simp only [s201_e, s201_0, s201_9, s201_12, s201_16, s201_25, s201_28, i1, cy, m_in0 (L := 0) (H := 2) rfl rfl c, Option.bind_some, Option.toList_some, Option.toList_none, List.cons_append, List.nil_append, true_or, or_true, if_true, if_false, i10, i01, Bool.false_eq_true]
      · have w0 : ¬ nI w < 0 := nI_pos (by omega)
        have w2 : ¬ (2 : Int32) < nI w := fun z => by
          have := (nI_ltI (a := 2) (by omega) (show w < 2 ^ 31 by omega)).mp z
          omega
        have i2 : ∀ σ, call (d + 11) 131 [vL (nI w).toInt64, vL 0, vL 2] σ = some (some (vI 1), σ) := fun σ => m_in1 (L := 0) (H := 2) (lo := 0) (hi := 2) rfl rfl (by omega) (Nat.zero_le w) hw2
        by_cases c0 : qn (xs X) = 0
        · rw [c0] at hn
          refine Step.rd hw hc hm hx (v := vI (-103)) (σ1 := σ) ?_ Ag.rf (fun m => ⟨σ, ?_, QF.of Ag.rf⟩)
          · simp only [s118_e, s118_0, s118_5, s118_11, s118_18, s118_22, s118_30, s118_37, s118_40, b1, b40, cy, w0, w2, c_stands_f hn, Option.bind_some, Option.toList_some, Option.toList_none, List.cons_append, List.nil_append, true_or, or_true, if_true, if_false, i10, i01, Bool.false_eq_true]
          · simp only [s201_e, s201_0, s201_9, s201_12, s201_16, s201_25, s201_31, s201_35, s201_38, i1, i2, cy, m_lacks_f m.1.1 c0, Option.bind_some, Option.toList_some, Option.toList_none, List.cons_append, List.nil_append, true_or, or_true, if_true, if_false, i10, i01, Bool.false_eq_true]
        · have p0 : 0 < qn (xs X) := by omega
          obtain ⟨σ1, e1, q4, q5, q6, g1⟩ := c_summer (d := d + 7) (m := m) h6 p0 (by omega) hs hc.1.1
          have e2 := c_summered (d := d + 11) (x := w) (by omega) q4 q5 q6
          refine Step.rd hw hc hm hx (v := vI (smA (qn (xs X)) (qK (xs X)) (qW (xs X)) (qA (xs X)) m s w)) (σ1 := σ1) ?_ g1 (fun m' => ?_)
          · simp only [s118_e, s118_0, s118_5, s118_11, s118_18, s118_22, s118_30, s118_37, s118_43, s118_56, s118_64, b1, b40, cy, w0, w2, c_stands_t hn h6 p0, e1, e2, Option.bind_some, Option.toList_some, Option.toList_none, List.cons_append, List.nil_append, true_or, or_true, if_true, if_false, i10, i01, Bool.false_eq_true]
          · obtain ⟨σ2, e3, g3⟩ := m_summersB (d := d + 9) (m := m) (s := s) h6 p0 (by omega) hw2 hs hx.1.2.2.1 hx.1.2.2.2.2.2.1 m'.1 m'.2.1
            refine ⟨σ2, ?_, g3⟩
            simp only [s201_e, s201_0, s201_9, s201_12, s201_16, s201_25, s201_31, s201_35, i1, i2, cy, m_lacks_t m'.1.1 h6 p0, Option.bind_some, Option.toList_some, Option.toList_none, List.cons_append, List.nil_append, true_or, or_true, if_true, if_false, i10, i01, Bool.false_eq_true]
            exact e3
end O6

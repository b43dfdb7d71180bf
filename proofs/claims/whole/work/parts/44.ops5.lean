/-! Calls of both: what would be. -/
theorem wcase (x : Int32) {hi : Nat} (hh : hi ≤ 1000) : (¬ x = 0 ∧ (x < nI 10 ∨ nI hi < x)) ∨ ∃ w, (w = 0 ∨ (10 ≤ w ∧ w ≤ hi)) ∧ x = nI w := by
  by_cases c0 : x = 0
  · exact Or.inr ⟨0, Or.inl rfl, c0⟩
  · by_cases c : x < nI 10 ∨ nI hi < x
    · exact Or.inl ⟨c0, c⟩
    · obtain ⟨w, h1, h2, h3⟩ := rng (lo := 10) (by omega) hh c
      exact Or.inr ⟨w, Or.inr ⟨h1, h2⟩, h3⟩
theorem rcase (x : Int32) {lo hi : Nat} (hl : lo ≤ 1000) (hh : hi ≤ 1000) : (x < nI lo ∨ nI hi < x) ∨ ∃ j, lo ≤ j ∧ j ≤ hi ∧ x = nI j := by
  by_cases c : x < nI lo ∨ nI hi < x
  · exact Or.inl c
  · exact Or.inr (rng hl hh c)
theorem bits1 : ∀ n, n < 7 → (1 : Int32) <<< (nI n &&& 31) = nI (2 ^ n) := by decide +kernel
theorem pow64 : ∀ n, n < 7 → 0 < 2 ^ n ∧ 2 ^ n ≤ 64 := by decide
section O5
variable {d : Nat} {σ σ' : St} {X : Ab}
theorem c_isSoon_t {k : Nat} (hk : k ≤ 5) : call d 128 [vI (nI k)] σ = some (some (vI 1), σ) := by
  have l5 : ¬ (5 : Int32) < nI k := fun z => by
    have := (nI_ltI (a := 5) (by omega) (show k < 2 ^ 31 by omega)).mp z
    omega
  rw [s128_e, s128_0, if_neg (nI_pos (by omega)), s128_4, if_neg l5, s128_9, s128_14]
  rfl
theorem c_isSoon_f {x : Int32} (h : x < nI 0 ∨ nI 5 < x) : call d 128 [vI x] σ = some (some (vI 0), σ) := by
  rw [s128_e, s128_0]
  by_cases c : x < 0
  · rw [if_pos c, s128_13, s128_14]; rfl
  · have c2 : (5 : Int32) < x := h.resolve_left c
    rw [if_neg c, s128_4, if_pos c2, s128_13, s128_14]; rfl
theorem c_isPeaceTell_t {w : Nat} (hw : w = 0 ∨ (10 ≤ w ∧ w ≤ 12)) : call d 129 [vI (nI w)] σ = some (some (vI 1), σ) := by
  rw [s129_e, s129_0]
  by_cases c : w = 0
  · subst c
    rw [if_pos (show nI 0 = 0 from rfl), s129_16, s129_21]; rfl
  · have e0 : ¬ nI w = 0 := nI_ne0 (by omega) (by omega)
    have l10 : ¬ nI w < 10 := fun z => by
      have := (nI_ltI (b := 10) (show w < 2 ^ 31 by omega) (by omega)).mp z
      omega
    have l12 : ¬ (12 : Int32) < nI w := fun z => by
      have := (nI_ltI (a := 12) (by omega) (show w < 2 ^ 31 by omega)).mp z
      omega
    rw [if_neg e0, s129_4, if_neg l10, s129_10, if_neg l12, s129_16, s129_21]; rfl
theorem c_isPeaceTell_f {x : Int32} (h0 : ¬ x = 0) (h : x < nI 10 ∨ nI 12 < x) : call d 129 [vI x] σ = some (some (vI 0), σ) := by
  rw [s129_e, s129_0, if_neg h0, s129_4]
  by_cases c : x < 10
  · rw [if_pos c, s129_20, s129_21]; rfl
  · have c2 : (12 : Int32) < x := h.resolve_left c
    rw [if_neg c, s129_10, if_pos c2, s129_20, s129_21]; rfl
theorem op_settles {x : Int32} (hw : Wf σ) (hc : CAt σ X) (hm : MAt σ X) (hx : WfX X) : Step d 110 174 [vI x] X σ := by
  have h6 := hx.1.2.1
  have hn := hc.1.1.1
  rcases wcase x (hi := 15) (by omega) with ⟨c0, c⟩ | ⟨w, hw', rfl⟩
  · refine Step.rd hw hc hm hx (v := vI (-102)) (σ1 := σ) ?_ Ag.rf (fun m => ⟨σ, ?_, QF.of Ag.rf⟩)
    · rw [s110_e, s110_0, if_neg c0, s110_4]
      by_cases c1 : x < 10
      · rw [if_pos c1, s110_16]
      · rw [if_neg c1, s110_10, if_pos (show (15 : Int32) < x from c.resolve_left c1), s110_16]
    · simp only [s174_e, s174_0, s174_4, s174_15, s174_18, c0, m_in0 (L := 10) (H := 15) rfl rfl c, Option.bind_some, Option.toList_some, Option.toList_none, List.cons_append, List.nil_append, true_or, or_true, if_true, if_false, i10, i01, Bool.false_eq_true]
  · have cl : ∀ σ, exec (d + 12) 110 0 [vR 6 0, vI (nI w)] [] σ = exec (d + 12) 110 19 [vR 6 0, vI (nI w)] [] σ := fun σ => by
      rw [s110_0]
      by_cases c : w = 0
      · subst c; rw [if_pos (show nI 0 = 0 from rfl)]
      · have l10 : ¬ nI w < 10 := fun z => by
          have := (nI_ltI (b := 10) (show w < 2 ^ 31 by omega) (by omega)).mp z
          omega
        have l15 : ¬ (15 : Int32) < nI w := fun z => by
          have := (nI_ltI (a := 15) (by omega) (show w < 2 ^ 31 by omega)).mp z
          omega
        rw [if_neg (nI_ne0 (by omega) (by omega)), s110_4, if_neg l10, s110_10, if_neg l15]
    have ml : ∀ σ, exec (d + 12) 174 0 [vR 7 0, vI (nI w)] [] σ = exec (d + 12) 174 21 [vR 7 0, vI (nI w)] [] σ := fun σ => by
      rw [s174_0]
      by_cases c : w = 0
      · subst c; rw [if_pos (show nI 0 = 0 from rfl)]
      · rw [if_neg (nI_ne0 (by omega) (by omega))]
        simp only [s174_4, s174_15, m_in1 (d := d + 11) (σ := σ) (L := 10) (H := 15) (lo := 10) (hi := 15) rfl rfl (by omega) (show 10 ≤ w by omega) (show w ≤ 15 by omega), Option.bind_some, Option.toList_some, Option.toList_none, List.cons_append, List.nil_append, true_or, or_true, if_true, if_false, i10, i01, Bool.false_eq_true]
    by_cases c0 : qn (xs X) = 0
    · rw [c0] at hn
      refine Step.rd hw hc hm hx (v := vI (-103)) (σ1 := σ) ?_ Ag.rf (fun m => ⟨σ, ?_, QF.of Ag.rf⟩)
      · rw [s110_e, cl]
        simp only [s110_19, s110_26, s110_29, c_stands_f hn, Option.bind_some, Option.toList_some, Option.toList_none, List.cons_append, List.nil_append, true_or, or_true, if_true, if_false, i10, i01, Bool.false_eq_true]
      · rw [s174_e, ml]
        simp only [s174_21, s174_25, s174_28, s174_38, m_lacks_f m.1.1 c0, Option.bind_some, Option.toList_some, Option.toList_none, List.cons_append, List.nil_append, true_or, or_true, if_true, if_false, i10, i01, Bool.false_eq_true]
    · have p0 : 0 < qn (xs X) := by omega
      obtain ⟨σ1, e1, q1, L1, g1⟩ := c_settle (d := d + 7) h6 hc.1.1
      have e2 := c_settled (d := d + 10) h6 q1 L1 hw'
      refine Step.rd hw hc hm hx (v := vI (stA (qn (xs X)) (qK (xs X)) (qW (xs X)) (qA (xs X)) w)) (σ1 := σ1) ?_ g1 (fun m => ?_)
      · rw [s110_e, cl]
        simp only [s110_19, s110_26, s110_32, s110_43, s110_51, c_stands_t hn h6 p0, e1, e2, Option.bind_some, Option.toList_some, Option.toList_none, List.cons_append, List.nil_append, true_or, or_true, if_true, if_false, i10, i01, Bool.false_eq_true]
      · obtain ⟨σ2, e3, g3⟩ := m_settlesOf (d := d + 7) h6 hx.1.2.2.1 hx.1.2.2.2.2.2.1 m.1 m.2.1 hw'
        refine ⟨σ2, ?_, QF.of g3⟩
        rw [s174_e, ml]
        simp only [s174_21, s174_25, s174_33, s174_38, m_lacks_t m.1.1 h6 p0, e3, Option.bind_some, Option.toList_some, Option.toList_none, List.cons_append, List.nil_append, true_or, or_true, if_true, if_false, i10, i01, Bool.false_eq_true]
theorem CAt.cc (h : CAt σ X) (hc : xc X < 20) : CAt (se σ 6 0 10 (nI (xc X + 1))) (xs X, xg X, xL X, xp X, xi X, xr X, xc X + 1, xa X) := by
  obtain ⟨h1, h2, h3, h4, h5, h6, h7⟩ := h
  have e : ∀ t q, t ≠ 6 → ar (se σ 6 0 10 (nI (xc X + 1))) t q = ar σ t q := fun t q ht => by rw [se_def, ar_sw_t ht]
  have f6 : ar (se σ 6 0 10 (nI (xc X + 1))) 6 0 = upd (ar σ 6 0) 10 (nI (xc X + 1)) := by rw [se_def, ar_sw_s]
  exact ⟨h1.fr (fun t ht => e t 0 (by omega)), h2.fr (fun t ht => e t 0 (by omega)), h3.fr (fun t ht => e t 0 (by omega)), h4.fr (fun t ht => e t 1 (by omega)) (by rw [f6, upd_n (by decide)]), by rw [f6, upd_n (by decide)]; exact h5, by rw [f6, upd_s]; rfl, by rw [f6, upd_n (by decide)]; exact h7⟩
theorem CAt.ca (h : CAt σ X) : CAt (se σ 6 0 11 (nI (xa X + 1))) (xs X, xg X, xL X, xp X, xi X, xr X, xc X, xa X + 1) := by
  obtain ⟨h1, h2, h3, h4, h5, h6, h7⟩ := h
  have e : ∀ t q, t ≠ 6 → ar (se σ 6 0 11 (nI (xa X + 1))) t q = ar σ t q := fun t q ht => by rw [se_def, ar_sw_t ht]
  have f6 : ar (se σ 6 0 11 (nI (xa X + 1))) 6 0 = upd (ar σ 6 0) 11 (nI (xa X + 1)) := by rw [se_def, ar_sw_s]
  exact ⟨h1.fr (fun t ht => e t 0 (by omega)), h2.fr (fun t ht => e t 0 (by omega)), h3.fr (fun t ht => e t 0 (by omega)), h4.fr (fun t ht => e t 1 (by omega)) (by rw [f6, upd_n (by decide)]), by rw [f6, upd_n (by decide)]; exact h5, by rw [f6, upd_n (by decide)]; exact h6, by rw [f6, upd_s]; rfl⟩
theorem MAt.cc (h : MAt σ X) : MAt (se σ 7 0 20 (nI (xc X + 1))) (xs X, xg X, xL X, xp X, xi X, xr X, xc X + 1, xa X) := by
  obtain ⟨h1, h2, h3, h4, h5, h6, h7, h8, h9⟩ := h
  have e : ∀ t, t ≠ 7 → ar (se σ 7 0 20 (nI (xc X + 1))) t 0 = ar σ t 0 := fun t ht => by rw [se_def, ar_sw_t ht]
  have f7 : ar (se σ 7 0 20 (nI (xc X + 1))) 7 0 = upd (ar σ 7 0) 20 (nI (xc X + 1)) := by rw [se_def, ar_sw_s]
  exact ⟨h1.fr (by rw [f7, upd_n (by decide)]) (e 31 (by decide)) (e 36 (by decide)), fun j hj => by rw [e 35 (by decide)]; exact h2 j hj, h3.fr (by rw [f7, upd_n (by decide)]) (e 44 (by decide)), h4.fr (by rw [f7, upd_n (by decide)]) (e 30 (by decide)), h5.fr (fun t h1 h2 => e t (by omega)) (fun j h1 h2 => by rw [f7, upd_n (by omega)]), h6.fr (fun t h1 h2 => e t (by omega)) (fun j h1 h2 => by rw [f7, upd_n (by omega)]), by rw [f7, upd_n (by decide)]; exact h7, by rw [f7, upd_s]; rfl, by rw [f7, upd_n (by decide)]; exact h9⟩
theorem MAt.ca (h : MAt σ X) : MAt (se σ 7 0 23 (nI (xa X + 1))) (xs X, xg X, xL X, xp X, xi X, xr X, xc X, xa X + 1) := by
  obtain ⟨h1, h2, h3, h4, h5, h6, h7, h8, h9⟩ := h
  have e : ∀ t, t ≠ 7 → ar (se σ 7 0 23 (nI (xa X + 1))) t 0 = ar σ t 0 := fun t ht => by rw [se_def, ar_sw_t ht]
  have f7 : ar (se σ 7 0 23 (nI (xa X + 1))) 7 0 = upd (ar σ 7 0) 23 (nI (xa X + 1)) := by rw [se_def, ar_sw_s]
  exact ⟨h1.fr (by rw [f7, upd_n (by decide)]) (e 31 (by decide)) (e 36 (by decide)), fun j hj => by rw [e 35 (by decide)]; exact h2 j hj, h3.fr (by rw [f7, upd_n (by decide)]) (e 44 (by decide)), h4.fr (by rw [f7, upd_n (by decide)]) (e 30 (by decide)), h5.fr (fun t h1 h2 => e t (by omega)) (fun j h1 h2 => by rw [f7, upd_n (by omega)]), h6.fr (fun t h1 h2 => e t (by omega)) (fun j h1 h2 => by rw [f7, upd_n (by omega)]), by rw [f7, upd_n (by decide)]; exact h7, by rw [f7, upd_n (by decide)]; exact h8, by rw [f7, upd_s]; rfl⟩
theorem op_calm {x y z : Int32} (hw : Wf σ) (hc : CAt σ X) (hm : MAt σ X) (hx : WfX X) : Step d 111 182 [vI x, vI y, vI z] X σ := by
  have h6 := hx.1.2.1
  have hn := hc.1.1.1
  obtain ⟨pw0, pw1⟩ := pow64 (qn (xs X)) (by omega)
  have esz : call (d + 11) 51 [vR 5 0] σ = some (some (vI (nI (qn (xs X)))), σ) := by rw [c_size, hn]
  have eb1 := bits1 (qn (xs X)) (by omega)
  have eb2 : nI (2 ^ qn (xs X)) - 1 = nI (2 ^ qn (xs X) - 1) := by rw [show (1 : Int32) = nI 1 from rfl, pk_sub (by omega)]
  have hi64 : (nI (2 ^ qn (xs X) - 1)).toInt64 = (nI (2 ^ qn (xs X) - 1)).toInt64 := rfl
  rcases rcase x (lo := 1) (hi := 2 ^ qn (xs X) - 1) (by omega) (by omega) with c | ⟨B, hB1, hB2, rfl⟩
  · refine Step.rd hw hc hm hx (v := vI (-102)) (σ1 := σ) ?_ Ag.rf (fun m => ⟨σ, ?_, QF.of Ag.rf⟩)
    · rw [s111_e, s111_0]
      by_cases c1 : x < 1
      · rw [if_pos c1, s111_18]
      · rw [if_neg c1]
        have c2 : ¬ x < nI (2 ^ qn (xs X)) := fun z => by
          have c3 := c.resolve_left c1
          have x0 : ¬ x < 0 := fun y => c1 (Int32.lt_trans y (by decide))
          obtain ⟨j, hj, rfl⟩ := nI_of x0
          rw [nI_ltI hj (by omega)] at z
          rw [nI_ltI (by omega) hj] at c3
          omega
        simp only [s111_5, s111_14, s111_18, esz, eb1, c2, Option.bind_some, Option.toList_some, Option.toList_none, List.cons_append, List.nil_append, true_or, or_true, if_true, if_false, i10, i01, Bool.false_eq_true]
    · simp only [s182_e, s182_0, s182_15, s182_48, show ar σ 7 0 3 = nI (qn (xs X)) from m.1.1, eb1, eb2, m_in0 (L := 1) (H := (nI (2 ^ qn (xs X) - 1)).toInt64) rfl rfl c, Option.bind_some, Option.toList_some, Option.toList_none, List.cons_append, List.nil_append, true_or, or_true, if_true, if_false, i10, i01, Bool.false_eq_true]
  · have b1 : ¬ nI B < 1 := fun z => by
      have := (nI_ltI (b := 1) (show B < 2 ^ 31 by omega) (by omega)).mp z
      omega
    have b2 : nI B < nI (2 ^ qn (xs X)) := ltn (by omega) (by omega)
    have cst : ∀ σ, ar σ 5 0 7 = nI (qn (xs X)) → exec (d + 12) 111 0 [vR 6 0, vI (nI B), vI y, vI z] [] σ = exec (d + 12) 111 21 [vR 6 0, vI (nI B), vI y, vI z] [] σ := fun σ hn => by
      have esz : call (d + 11) 51 [vR 5 0] σ = some (some (vI (nI (qn (xs X)))), σ) := by rw [c_size, hn]
      rw [s111_0, if_neg b1]
      simp only [s111_5, s111_14, esz, eb1, b2, Option.bind_some, Option.toList_some, Option.toList_none, List.cons_append, List.nil_append, true_or, or_true, if_true, if_false, i10, i01, Bool.false_eq_true]
    have mst : ∀ σ, MAt σ X → exec (d + 12) 182 0 [vR 7 0, vI (nI B), vI y, vI z] [] σ = exec (d + 12) 182 18 [vR 7 0, vI (nI B), vI y, vI z] [] σ := fun σ m => by
      have mB := m_in1 (d := d + 11) (σ := σ) (L := 1) (H := (nI (2 ^ qn (xs X) - 1)).toInt64) (lo := 1) (hi := 2 ^ qn (xs X) - 1) (j := B) rfl rfl (by omega) hB1 hB2
      simp only [s182_0, s182_15, show ar σ 7 0 3 = nI (qn (xs X)) from m.1.1, eb1, eb2, mB, Option.bind_some, Option.toList_some, Option.toList_none, List.cons_append, List.nil_append, true_or, or_true, if_true, if_false, i10, i01, Bool.false_eq_true]
    rcases rcase y (lo := 0) (hi := 5) (by omega) (by omega) with c | ⟨m, -, hm5, rfl⟩
    · refine Step.rd hw hc hm hx (v := vI (-102)) (σ1 := σ) ?_ Ag.rf (fun m => ⟨σ, ?_, QF.of Ag.rf⟩)
      · rw [s111_e, cst σ hn]
        simp only [s111_21, s111_25, s111_35, c_isSoon_f c, Option.bind_some, Option.toList_some, Option.toList_none, List.cons_append, List.nil_append, true_or, or_true, if_true, if_false, i10, i01, Bool.false_eq_true]
      · rw [s182_e, mst σ m]
        simp only [s182_18, s182_27, s182_48, m_in0 (L := 0) (H := 5) rfl rfl c, Option.bind_some, Option.toList_some, Option.toList_none, List.cons_append, List.nil_append, true_or, or_true, if_true, if_false, i10, i01, Bool.false_eq_true]
    · rcases wcase z (hi := 12) (by omega) with ⟨c0, c⟩ | ⟨w, hw', rfl⟩
      · refine Step.rd hw hc hm hx (v := vI (-102)) (σ1 := σ) ?_ Ag.rf (fun m' => ⟨σ, ?_, QF.of Ag.rf⟩)
        · rw [s111_e, cst σ hn]
          simp only [s111_21, s111_25, s111_28, s111_32, s111_35, c_isSoon_t hm5, c_isPeaceTell_f c0 c, Option.bind_some, Option.toList_some, Option.toList_none, List.cons_append, List.nil_append, true_or, or_true, if_true, if_false, i10, i01, Bool.false_eq_true]
        · rw [s182_e, mst σ m']
          simp only [s182_18, s182_27, s182_30, s182_34, s182_45, s182_48, m_in1 (L := 0) (H := 5) (lo := 0) (hi := 5) rfl rfl (by omega) (Nat.zero_le m) hm5, c0, m_in0 (L := 10) (H := 12) rfl rfl c, Option.bind_some, Option.toList_some, Option.toList_none, List.cons_append, List.nil_append, true_or, or_true, if_true, if_false, i10, i01, Bool.false_eq_true]
      · have cst2 : ∀ σ, ar σ 5 0 7 = nI (qn (xs X)) → call (d + 12) 111 [vR 6 0, vI (nI B), vI (nI m), vI (nI w)] σ = exec (d + 12) 111 38 [vR 6 0, vI (nI B), vI (nI m), vI (nI w)] [] σ := fun σ hn => by
          rw [s111_e, cst σ hn]
          simp only [s111_21, s111_25, s111_28, s111_32, c_isSoon_t hm5, c_isPeaceTell_t hw', Option.bind_some, Option.toList_some, Option.toList_none, List.cons_append, List.nil_append, true_or, or_true, if_true, if_false, i10, i01, Bool.false_eq_true]
        have mst2 : ∀ σ, MAt σ X → call (d + 12) 182 [vR 7 0, vI (nI B), vI (nI m), vI (nI w)] σ = exec (d + 12) 182 51 [vR 7 0, vI (nI B), vI (nI m), vI (nI w)] [] σ := fun σ m' => by
          rw [s182_e, mst σ m']
          by_cases c : w = 0
          · subst c
            simp only [s182_18, s182_27, s182_30, m_in1 (L := 0) (H := 5) (lo := 0) (hi := 5) rfl rfl (by omega) (Nat.zero_le m) hm5, show (nI 0 = 0) = True from eq_true rfl, Option.bind_some, Option.toList_some, Option.toList_none, List.cons_append, List.nil_append, true_or, or_true, if_true, if_false, i10, i01, Bool.false_eq_true]
          · simp only [s182_18, s182_27, s182_30, s182_34, s182_45, m_in1 (L := 0) (H := 5) (lo := 0) (hi := 5) rfl rfl (by omega) (Nat.zero_le m) hm5, nI_ne0 (show 0 < w by omega) (show w < 2 ^ 31 by omega), m_in1 (L := 10) (H := 12) (lo := 10) (hi := 12) rfl rfl (by omega) (show 10 ≤ w by omega) (show w ≤ 12 by omega), Option.bind_some, Option.toList_some, Option.toList_none, List.cons_append, List.nil_append, true_or, or_true, if_true, if_false, i10, i01, Bool.false_eq_true]
        have hc20 := hx.2.2.2.1
        have lt20 : (nI (xc X) < 20) = (xc X < 20) := by rw [show (20 : Int32) = nI 20 from rfl]; exact ltN (by omega) (by omega)
        have eq20 : (nI (xc X) = 20) = (xc X = 20) := by rw [show (20 : Int32) = nI 20 from rfl]; exact eqN (by omega) (by omega)
        have r10 : ar σ 6 0 10 = nI (xc X) := hc.2.2.2.2.2.1
        by_cases c20 : xc X = 20
        · refine Step.rd hw hc hm hx (v := vI (-103)) (σ1 := σ) ?_ Ag.rf (fun m' => ⟨σ, ?_, QF.of Ag.rf⟩)
          · rw [cst2 σ hn, s111_38, r10, if_neg (by rw [lt20]; omega), s111_47]
          · rw [mst2 σ m', s182_51, show ar σ 7 0 20 = nI (xc X) from m'.2.2.2.2.2.2.2.1, if_pos (by rw [eq20]; exact c20), s182_60]
        · have p20 : xc X < 20 := by omega
          have h3 : 3 ≤ qn (xs X) := by
            rcases hx.1.1 with h | h
            · rw [h] at hB2; omega
            · exact h
          have c1 := hc.cc p20
          have hB64 : B < 64 := by omega
          obtain ⟨σ1, e1, P1, lt1, g1⟩ := c_findCalm (d := d + 3) (m := m) (B := B) h6 (by omega) hB64 c1.1.1
          have e2 := c_pmFound (d := d + 10) hw' lt1 P1
          have gC : Ag CB σ σ1 := Ag.tr (Ag.sw (show CB 6 0 from Or.inl (Nat.le_refl 6))) (CB.scr g1)
          have m1 := hm.cb gC
          have m2 := m1.cc
          obtain ⟨σ2, e3, g3⟩ := m_calmOf (d := d + 5) (m := m) (B := B) h6 h3 (by omega) hB64 hx.1.2.2.1 hx.1.2.2.2.2.2.1 hx.1.2.2.2.2.2.2.1 m2.1 m2.2.1 hw'
          refine Step.mk hw (v := vI (pfA (clR (clmQ (qn (xs X)) (qK (xs X)) (qW (xs X)) m B (qA (xs X)) 4 0)) (clL (clmQ (qn (xs X)) (qK (xs X)) (qW (xs X)) m B (qA (xs X)) 4 0)) w)) (σ1 := σ1) (σ2 := σ2) (X' := (xs X, xg X, xL X, xp X, xi X, xr X, xc X + 1, xa X)) ?_ gC (c1.scr g1) ?_ ((AgM.of (S := fun t q => t = 7 ∧ q = 0) (Ag.sw ⟨rfl, rfl⟩) (fun t q z => ⟨z.2, Or.inl z.1⟩)).tr (AgM.qm g3)) (m2.qm g3) ⟨hx.1, hx.2.1, hx.2.2.1, by show xc X + 1 ≤ 20; omega, hx.2.2.2.2.1, hx.2.2.2.2.2⟩ (by show xr X ≤ _; omega)
          · rw [cst2 σ hn, s111_38, r10, if_pos (by rw [lt20]; exact p20)]
            have e1' : call (d + 11) 33 [vR 3 0, vR 5 0, vI (nI B), vI (nI m)] (se σ 6 0 10 (nI (xc X + 1))) = some (none, σ1) := e1
            have e2' : call (d + 11) 41 [vR 3 0, vI (nI w)] σ1 = some (some (vI (pfA (clR (clmQ (qn (xs X)) (qK (xs X)) (qW (xs X)) m B (qA (xs X)) 4 0)) (clL (clmQ (qn (xs X)) (qK (xs X)) (qW (xs X)) m B (qA (xs X)) 4 0)) w)), σ1) := e2
            simp only [s111_50, s111_73, s111_81, r10, add1N, e1', e2', Option.bind_some, Option.toList_some, Option.toList_none, List.cons_append, List.nil_append, true_or, or_true, if_true, if_false, i10, i01, Bool.false_eq_true]
          · have r20 : ar σ1 7 0 20 = nI (xc X) := m1.2.2.2.2.2.2.2.1
            have e3' : call (d + 11) 181 [vR 7 0, vI (nI B), vI (nI m), vI (nI w)] (se σ1 7 0 20 (nI (xc X + 1))) = some (some (vI (pfA (clR (clmQ (qn (xs X)) (qK (xs X)) (qW (xs X)) m B (qA (xs X)) 4 0)) (clL (clmQ (qn (xs X)) (qK (xs X)) (qW (xs X)) m B (qA (xs X)) 4 0)) w)), σ2) := e3
            refine (mst2 σ1 m1).trans ?_
            rw [s182_51, r20, if_neg (by rw [eq20]; exact c20)]
            simp only [s182_63, s182_80, r20, add1N, e3', Option.bind_some, Option.toList_some, Option.toList_none, List.cons_append, List.nil_append, true_or, or_true, if_true, if_false, i10, i01, Bool.false_eq_true]
theorem op_arbiter {x y : Int32} (hw : Wf σ) (hc : CAt σ X) (hm : MAt σ X) (hx : WfX X) : Step d 112 185 [vI x, vI y] X σ := by
  have h6 := hx.1.2.1
  have hn := hc.1.1.1
  rcases rcase x (lo := 1) (hi := 3) (by omega) (by omega) with c | ⟨m, hm1, hm3, rfl⟩
  · refine Step.rd hw hc hm hx (v := vI (-102)) (σ1 := σ) ?_ Ag.rf (fun m => ⟨σ, ?_, QF.of Ag.rf⟩)
    · rw [s112_e, s112_0]
      by_cases c1 : x < 1
      · rw [if_pos c1, s112_17]
      · rw [if_neg c1, s112_5, if_pos (show (3 : Int32) < x from c.resolve_left c1), s112_17]
    · simp only [s185_e, s185_0, s185_9, s185_30, m_in0 (L := 1) (H := 3) rfl rfl c, Option.bind_some, Option.toList_some, Option.toList_none, List.cons_append, List.nil_append, true_or, or_true, if_true, if_false, i10, i01, Bool.false_eq_true]
  · have b1 : ¬ nI m < 1 := fun z => by
      have := (nI_ltI (b := 1) (show m < 2 ^ 31 by omega) (by omega)).mp z
      omega
    have b3 : ¬ (3 : Int32) < nI m := fun z => by
      have := (nI_ltI (a := 3) (by omega) (show m < 2 ^ 31 by omega)).mp z
      omega
    rcases wcase y (hi := 12) (by omega) with ⟨c0, c⟩ | ⟨w, hw', rfl⟩
    · refine Step.rd hw hc hm hx (v := vI (-102)) (σ1 := σ) ?_ Ag.rf (fun m' => ⟨σ, ?_, QF.of Ag.rf⟩)
      · simp only [s112_e, s112_0, s112_5, s112_10, s112_14, s112_17, b1, b3, c_isPeaceTell_f c0 c, Option.bind_some, Option.toList_some, Option.toList_none, List.cons_append, List.nil_append, true_or, or_true, if_true, if_false, i10, i01, Bool.false_eq_true]
      · simp only [s185_e, s185_0, s185_9, s185_12, s185_16, s185_27, s185_30, m_in1 (L := 1) (H := 3) (lo := 1) (hi := 3) rfl rfl (by omega) hm1 hm3, c0, m_in0 (L := 10) (H := 12) rfl rfl c, Option.bind_some, Option.toList_some, Option.toList_none, List.cons_append, List.nil_append, true_or, or_true, if_true, if_false, i10, i01, Bool.false_eq_true]
    · have cst2 : ∀ σ, call (d + 12) 112 [vR 6 0, vI (nI m), vI (nI w)] σ = exec (d + 12) 112 20 [vR 6 0, vI (nI m), vI (nI w)] [] σ := fun σ => by
        simp only [s112_e, s112_0, s112_5, s112_10, s112_14, b1, b3, c_isPeaceTell_t hw', Option.bind_some, Option.toList_some, Option.toList_none, List.cons_append, List.nil_append, true_or, or_true, if_true, if_false, i10, i01, Bool.false_eq_true]
      have mst2 : ∀ σ, call (d + 12) 185 [vR 7 0, vI (nI m), vI (nI w)] σ = exec (d + 12) 185 33 [vR 7 0, vI (nI m), vI (nI w)] [] σ := fun σ => by
        by_cases c : w = 0
        · subst c
          simp only [s185_e, s185_0, s185_9, s185_12, m_in1 (L := 1) (H := 3) (lo := 1) (hi := 3) rfl rfl (by omega) hm1 hm3, show (nI 0 = 0) = True from eq_true rfl, Option.bind_some, Option.toList_some, Option.toList_none, List.cons_append, List.nil_append, true_or, or_true, if_true, if_false, i10, i01, Bool.false_eq_true]
        · simp only [s185_e, s185_0, s185_9, s185_12, s185_16, s185_27, m_in1 (L := 1) (H := 3) (lo := 1) (hi := 3) rfl rfl (by omega) hm1 hm3, nI_ne0 (show 0 < w by omega) (show w < 2 ^ 31 by omega), m_in1 (L := 10) (H := 12) (lo := 10) (hi := 12) rfl rfl (by omega) (show 10 ≤ w by omega) (show w ≤ 12 by omega), Option.bind_some, Option.toList_some, Option.toList_none, List.cons_append, List.nil_append, true_or, or_true, if_true, if_false, i10, i01, Bool.false_eq_true]
      by_cases c0 : qn (xs X) = 0
      · rw [c0] at hn
        refine Step.rd hw hc hm hx (v := vI (-103)) (σ1 := σ) ?_ Ag.rf (fun m' => ⟨σ, ?_, QF.of Ag.rf⟩)
        · rw [cst2]
          simp only [s112_20, s112_27, s112_39, c_stands_f hn, Option.bind_some, Option.toList_some, Option.toList_none, List.cons_append, List.nil_append, true_or, or_true, if_true, if_false, i10, i01, Bool.false_eq_true]
        · refine (mst2 σ).trans ?_
          simp only [s185_33, s185_37, s185_49, m_lacks_f m'.1.1 c0, Option.bind_some, Option.toList_some, Option.toList_none, List.cons_append, List.nil_append, true_or, or_true, if_true, if_false, i10, i01, Bool.false_eq_true]
      · have p0 : 0 < qn (xs X) := by omega
        have ha12 := hx.2.2.2.2.1
        have lt12 : (nI (xa X) < 12) = (xa X < 12) := by rw [show (12 : Int32) = nI 12 from rfl]; exact ltN (by omega) (by omega)
        have eq12 : (nI (xa X) = 12) = (xa X = 12) := by rw [show (12 : Int32) = nI 12 from rfl]; exact eqN (by omega) (by omega)
        have r11 : ar σ 6 0 11 = nI (xa X) := hc.2.2.2.2.2.2
        by_cases c12 : xa X = 12
        · have nlt12 : (nI (xa X) < 12) = False := lt12.trans (eq_false (by omega))
          refine Step.rd hw hc hm hx (v := vI (-103)) (σ1 := σ) ?_ Ag.rf (fun m' => ⟨σ, ?_, QF.of Ag.rf⟩)
          · rw [cst2]
            simp only [s112_20, s112_27, s112_30, s112_39, c_stands_t hn h6 p0, r11, nlt12, Option.bind_some, Option.toList_some, Option.toList_none, List.cons_append, List.nil_append, true_or, or_true, if_true, if_false, i10, i01, Bool.false_eq_true]
          · refine (mst2 σ).trans ?_
            simp only [s185_33, s185_37, s185_40, s185_49, m_lacks_t m'.1.1 h6 p0, show ar σ 7 0 23 = nI (xa X) from m'.2.2.2.2.2.2.2.2, eq12.trans (eq_true c12), Option.bind_some, Option.toList_some, Option.toList_none, List.cons_append, List.nil_append, true_or, or_true, if_true, if_false, i10, i01, Bool.false_eq_true]
        · have p12 : xa X < 12 := by omega
          have c1 := hc.ca
          obtain ⟨σ1, e1, P1, lt1, g1⟩ := c_arbitrate (d := d + 3) (m := m) h6 hm3 c1.1.1
          have e2 := c_pmFound (d := d + 10) hw' lt1 P1
          have gC : Ag CB σ σ1 := Ag.tr (Ag.sw (show CB 6 0 from Or.inl (Nat.le_refl 6))) (CB.scr g1)
          have m1 := hm.cb gC
          have m2 := m1.ca
          obtain ⟨σ2, e3, g3⟩ := m_arbiterOf (d := d + 7) (m := m) h6 hm1 hm3 hx.1.2.2.1 hx.1.2.2.2.2.2.1 hx.1.2.2.2.2.2.2.1 m2.1 m2.2.1 hw'
          refine Step.mk hw (v := vI (pfA (nI (abR (qn (xs X)) (qK (xs X)) (qW (xs X)) (qA (xs X)) m).1) (abR (qn (xs X)) (qK (xs X)) (qW (xs X)) (qA (xs X)) m).2 w)) (σ1 := σ1) (σ2 := σ2) (X' := (xs X, xg X, xL X, xp X, xi X, xr X, xc X, xa X + 1)) ?_ gC (c1.scr g1) ?_ ((AgM.of (S := fun t q => t = 7 ∧ q = 0) (Ag.sw ⟨rfl, rfl⟩) (fun t q z => ⟨z.2, Or.inl z.1⟩)).tr (AgM.qm g3)) (m2.qm g3) ⟨hx.1, hx.2.1, hx.2.2.1, hx.2.2.2.1, by show xa X + 1 ≤ 12; omega, hx.2.2.2.2.2⟩ (by show xr X ≤ _; omega)
          · rw [cst2]
            have e1' : call (d + 11) 36 [vR 3 0, vR 5 0, vI (nI m)] (se σ 6 0 11 (nI (xa X + 1))) = some (none, σ1) := e1
            have e2' : call (d + 11) 41 [vR 3 0, vI (nI w)] σ1 = some (some (vI (pfA (nI (abR (qn (xs X)) (qK (xs X)) (qW (xs X)) (qA (xs X)) m).1) (abR (qn (xs X)) (qK (xs X)) (qW (xs X)) (qA (xs X)) m).2 w)), σ1) := e2
            simp only [s112_20, s112_27, s112_30, s112_42, s112_64, s112_72, c_stands_t hn h6 p0, r11, lt12.trans (eq_true p12), add1N, e1', e2', Option.bind_some, Option.toList_some, Option.toList_none, List.cons_append, List.nil_append, true_or, or_true, if_true, if_false, i10, i01, Bool.false_eq_true]
          · have r23 : ar σ1 7 0 23 = nI (xa X) := m1.2.2.2.2.2.2.2.2
            have e3' : call (d + 11) 184 [vR 7 0, vI (nI m), vI (nI w)] (se σ1 7 0 23 (nI (xa X + 1))) = some (some (vI (pfA (nI (abR (qn (xs X)) (qK (xs X)) (qW (xs X)) (qA (xs X)) m).1) (abR (qn (xs X)) (qK (xs X)) (qW (xs X)) (qA (xs X)) m).2 w)), σ2) := e3
            refine (mst2 σ1).trans ?_
            simp only [s185_33, s185_37, s185_40, s185_52, s185_68, m_lacks_t m1.1.1 h6 p0, r23, eq12.trans (eq_false c12), add1N, e3', Option.bind_some, Option.toList_some, Option.toList_none, List.cons_append, List.nil_append, true_or, or_true, if_true, if_false, i10, i01, Bool.false_eq_true]
theorem op_grudge {x y z : Int32} (hw : Wf σ) (hc : CAt σ X) (hm : MAt σ X) (hx : WfX X) : Step d 113 187 [vI x, vI y, vI z] X σ := by
  have h6 := hx.1.2.1
  have hn := hc.1.1.1
  by_cases c : isT (qn (xs X)) x y
  · obtain ⟨a, b, ha, hb, hab, rfl, rfl⟩ := c
    rcases rcase z (lo := 0) (hi := 5) (by omega) (by omega) with c | ⟨k, -, hk, rfl⟩
    · refine Step.rd hw hc hm hx (v := vI (-102)) (σ1 := σ) ?_ Ag.rf (fun m => ⟨σ, ?_, QF.of Ag.rf⟩)
      · simp only [s113_e, s113_0, s113_9, s113_15, s113_19, s113_22, c_areTwo_t (d := d + 10) hn h6 ha hb hab, c_isSoon_f c, Option.bind_some, Option.toList_some, Option.toList_none, List.cons_append, List.nil_append, true_or, or_true, if_true, if_false, i10, i01, Bool.false_eq_true]
      · simp only [s187_e, s187_0, s187_6, s187_12, s187_21, s187_34, s187_36, m_areTwo_t (d := d + 9) m.1.1 h6 ha hb hab, m_in0 (L := 0) (H := 5) rfl rfl c, Option.bind_some, Option.toList_some, Option.toList_none, List.cons_append, List.nil_append, true_or, or_true, if_true, if_false, i10, i01, Bool.false_eq_true]
    · obtain ⟨σ1, e1, g1⟩ := c_leastGrudge (d := d + 7) (m := k) h6 ha hb (by omega) hc.1.1
      refine Step.rd hw hc hm hx (v := vI (en (grd (qn (xs X)) (qK (xs X)) (qW (xs X)) (qA (xs X)) a b k 9 1))) (σ1 := σ1) ?_ g1 (fun m => ?_)
      · simp only [s113_e, s113_0, s113_9, s113_15, s113_19, s113_25, s113_39, c_areTwo_t (d := d + 10) hn h6 ha hb hab, c_isSoon_t hk, e1, Option.bind_some, Option.toList_some, Option.toList_none, List.cons_append, List.nil_append, true_or, or_true, if_true, if_false, i10, i01, Bool.false_eq_true]
      · obtain ⟨σ2, e2, g2⟩ := m_grudgeOf (d := d + 7) (m := k) h6 ha hb hab (by omega) hx.1.2.2.1 hx.1.2.2.2.2.2.1 m.1 m.2.1
        refine ⟨σ2, ?_, QF.of g2⟩
        simp only [s187_e, s187_0, s187_6, s187_12, s187_21, s187_24, s187_31, s187_36, m_areTwo_t (d := d + 9) m.1.1 h6 ha hb hab, m_in1 (L := 0) (H := 5) (lo := 0) (hi := 5) rfl rfl (by omega) (Nat.zero_le k) hk, e2, Option.bind_some, Option.toList_some, Option.toList_none, List.cons_append, List.nil_append, true_or, or_true, if_true, if_false, i10, i01, Bool.false_eq_true]
  · refine Step.rd hw hc hm hx (v := vI (-101)) (σ1 := σ) ?_ Ag.rf (fun m => ⟨σ, ?_, QF.of Ag.rf⟩)
    · simp only [s113_e, s113_0, s113_9, s113_12, c_areTwo_f (d := d + 10) hn h6 c, Option.bind_some, Option.toList_some, Option.toList_none, List.cons_append, List.nil_append, true_or, or_true, if_true, if_false, i10, i01, Bool.false_eq_true]
    · simp only [s187_e, s187_0, s187_6, s187_9, m_areTwo_f (d := d + 9) m.1.1 h6 c, Option.bind_some, Option.toList_some, Option.toList_none, List.cons_append, List.nil_append, true_or, or_true, if_true, if_false, i10, i01, Bool.false_eq_true]
theorem op_walls {x y : Int32} (hw : Wf σ) (hc : CAt σ X) (hm : MAt σ X) (hx : WfX X) : Step d 114 190 [vI x, vI y] X σ := by
  have h6 := hx.1.2.1
  have hn := hc.1.1.1
  rcases rcase x (lo := 0) (hi := 5) (by omega) (by omega) with c | ⟨m, -, hm5, rfl⟩
  · refine Step.rd hw hc hm hx (v := vI (-102)) (σ1 := σ) ?_ Ag.rf (fun m => ⟨σ, ?_, QF.of Ag.rf⟩)
    · simp only [s114_e, s114_0, s114_4, s114_16, c_isSoon_f c, Option.bind_some, Option.toList_some, Option.toList_none, List.cons_append, List.nil_append, true_or, or_true, if_true, if_false, i10, i01, Bool.false_eq_true]
    · simp only [s190_e, s190_0, s190_9, s190_22, m_in0 (L := 0) (H := 5) rfl rfl c, Option.bind_some, Option.toList_some, Option.toList_none, List.cons_append, List.nil_append, true_or, or_true, if_true, if_false, i10, i01, Bool.false_eq_true]
  · rcases rcase y (lo := 0) (hi := 1) (by omega) (by omega) with c | ⟨w, -, hw1, rfl⟩
    · refine Step.rd hw hc hm hx (v := vI (-102)) (σ1 := σ) ?_ Ag.rf (fun m' => ⟨σ, ?_, QF.of Ag.rf⟩)
      · by_cases c1 : y < 0
        · simp only [s114_e, s114_0, s114_4, s114_7, s114_16, c_isSoon_t hm5, c1, Option.bind_some, Option.toList_some, Option.toList_none, List.cons_append, List.nil_append, true_or, or_true, if_true, if_false, i10, i01, Bool.false_eq_true]
        · have c2 : (1 : Int32) < y := c.resolve_left c1
          simp only [s114_e, s114_0, s114_4, s114_7, s114_11, s114_16, c_isSoon_t hm5, c1, c2, Option.bind_some, Option.toList_some, Option.toList_none, List.cons_append, List.nil_append, true_or, or_true, if_true, if_false, i10, i01, Bool.false_eq_true]
      · simp only [s190_e, s190_0, s190_9, s190_12, s190_19, s190_22, m_in1 (L := 0) (H := 5) (lo := 0) (hi := 5) rfl rfl (by omega) (Nat.zero_le m) hm5, m_in0 (L := 0) (H := 1) rfl rfl c, Option.bind_some, Option.toList_some, Option.toList_none, List.cons_append, List.nil_append, true_or, or_true, if_true, if_false, i10, i01, Bool.false_eq_true]
    · have w0 : ¬ nI w < 0 := nI_pos (by omega)
      have w1 : ¬ (1 : Int32) < nI w := fun z => by
        have := (nI_ltI (a := 1) (by omega) (show w < 2 ^ 31 by omega)).mp z
        omega
      have i1 : ∀ σ, call (d + 11) 131 [vL (nI m).toInt64, vL 0, vL 5] σ = some (some (vI 1), σ) := fun σ => m_in1 (L := 0) (H := 5) (lo := 0) (hi := 5) rfl rfl (by omega) (Nat.zero_le m) hm5
      have i2 : ∀ σ, call (d + 11) 131 [vL (nI w).toInt64, vL 0, vL 1] σ = some (some (vI 1), σ) := fun σ => m_in1 (L := 0) (H := 1) (lo := 0) (hi := 1) rfl rfl (by omega) (Nat.zero_le w) hw1
      by_cases c0 : qn (xs X) = 0
      · rw [c0] at hn
        refine Step.rd hw hc hm hx (v := vI (-103)) (σ1 := σ) ?_ Ag.rf (fun m' => ⟨σ, ?_, QF.of Ag.rf⟩)
        · simp only [s114_e, s114_0, s114_4, s114_7, s114_11, s114_19, s114_26, s114_29, c_isSoon_t hm5, w0, w1, c_stands_f hn, Option.bind_some, Option.toList_some, Option.toList_none, List.cons_append, List.nil_append, true_or, or_true, if_true, if_false, i10, i01, Bool.false_eq_true]
        · simp only [s190_e, s190_0, s190_9, s190_12, s190_19, s190_25, s190_29, s190_32, s190_43, i1, i2, m_lacks_f m'.1.1 c0, Option.bind_some, Option.toList_some, Option.toList_none, List.cons_append, List.nil_append, true_or, or_true, if_true, if_false, i10, i01, Bool.false_eq_true]
      · have p0 : 0 < qn (xs X) := by omega
        obtain ⟨σ1, e1, q1, q2, g1⟩ := c_findWall (d := d + 7) (m := m) h6 (by omega) hc.1.1
        have e2 := c_walled (d := d + 10) hw1 q1 q2
        have m1 := hm.cb (CB.scr g1)
        obtain ⟨σ2, e3, o3, M3, s3⟩ := m_wallsOf (d := d + 6) (m := m) h6 (by omega) hw1 hx.1.2.2.1 hx.1.2.2.2.1 hx.1.2.2.2.2.2.1 m1.1 m1.2.1
        refine Step.mk hw (v := vI (wlA (qn (xs X)) (qK (xs X)) (qW (xs X)) (qA (xs X)) m w)) (σ1 := σ1) (σ2 := σ2) (X' := X) ?_ (CB.scr g1) (hc.scr g1) ?_ ⟨fun t q z => o3 t q (by unfold QM; omega), by rw [s3]⟩ (m1.kp ⟨fun t ht => o3 t 0 (by unfold QM; omega), fun j _ _ => by rw [o3 7 0 (by unfold QM; omega)]⟩ M3) hx (by omega)
        · simp only [s114_e, s114_0, s114_4, s114_7, s114_11, s114_19, s114_26, s114_32, s114_44, s114_52, c_isSoon_t hm5, w0, w1, c_stands_t hn h6 p0, e1, e2, Option.bind_some, Option.toList_some, Option.toList_none, List.cons_append, List.nil_append, true_or, or_true, if_true, if_false, i10, i01, Bool.false_eq_true]
        · simp only [s190_e, s190_0, s190_9, s190_12, s190_19, s190_25, s190_29, s190_37, s190_43, i1, i2, m_lacks_t m1.1.1 h6 p0, e3, Option.bind_some, Option.toList_some, Option.toList_none, List.cons_append, List.nil_append, true_or, or_true, if_true, if_false, i10, i01, Bool.false_eq_true]
end O5

/-! Calls of both: letters, the square. -/
theorem rng {x : Int32} {lo hi : Nat} (hlo : lo ≤ 1000) (hhi : hi ≤ 1000) (h : ¬ (x < nI lo ∨ nI hi < x)) : ∃ j, lo ≤ j ∧ j ≤ hi ∧ x = nI j := by
  have h0 : ¬ x < 0 := fun z => h (Or.inl (Int32.lt_of_lt_of_le z (nI_pos' (by omega))))
  have h1 : x ≤ nI hi := Int32.not_lt.mp (fun z => h (Or.inr z))
  obtain ⟨j, hj, e⟩ := nI_of2 (M := nI hi) (n := hi) (nI_toInt (by omega)) h0 h1
  refine ⟨j, ?_, hj, e⟩
  have : ¬ nI j < nI lo := fun z => h (Or.inl (by rw [e]; exact z))
  rw [ltN (by omega) (by omega)] at this
  omega
section O1
variable {d : Nat} {σ σ' : St} {X : Ab}
theorem CAt.pg {L : Nat} {p : Nat → Nat} (h : CAt σ X) (hp : PgAt σ' L p) (e : ∀ t q, t ≠ 2 → t ≠ 10 → ar σ' t q = ar σ t q) : CAt σ' (xs X, xg X, L, p, xi X, xr X, xc X, xa X) := by
  obtain ⟨h1, h2, h3, h4, h5, h6, h7⟩ := h
  exact ⟨h1.fr (fun t ht => e t 0 (by omega) (by omega)), h2.fr (fun t ht => e t 0 (by omega) (by omega)), hp, h4.fr (fun t ht => e t 1 (by omega) (by omega)) (by rw [e 6 0 (by omega) (by omega)]), by rw [e 6 0 (by omega) (by omega)]; exact h5, by rw [e 6 0 (by omega) (by omega)]; exact h6, by rw [e 6 0 (by omega) (by omega)]; exact h7⟩
theorem MAt.pg {L : Nat} {p : Nat → Nat} (h : MAt σ X) (hp : MpAt σ' L p) (e : ∀ t, 31 ≤ t → ar σ' t 0 = ar σ t 0) (e7 : ∀ j, j ≠ 1 → ar σ' 7 0 j = ar σ 7 0 j) : MAt σ' (xs X, xg X, L, p, xi X, xr X, xc X, xa X) := by
  obtain ⟨h1, h2, h3, h4, h5, h6, h7, h8, h9⟩ := h
  exact ⟨h1.fr (e7 3 (by omega)) (e 31 (by omega)) (e 36 (by omega)), fun j hj => by rw [e 35 (by omega)]; exact h2 j hj, h3.fr (e7 24 (by omega)) (e 44 (by omega)), hp, h5.fr (fun t h1 h2 => e t (by omega)) (fun j h1 h2 => e7 j (by omega)), h6.fr (fun t h1 h2 => e t (by omega)) (fun j h1 h2 => e7 j (by omega)), by rw [e7 8 (by omega)]; exact h7, by rw [e7 20 (by omega)]; exact h8, by rw [e7 23 (by omega)]; exact h9⟩
theorem op_letter {x : Int32} (hw : Wf σ) (hc : CAt σ X) (hm : MAt σ X) (hx : WfX X) : Step d 95 133 [vI x] X σ := by
  have P := hc.2.2.1
  by_cases c : x < 1 ∨ 126 < x
  · refine Step.rd hw hc hm hx (v := vI (-102)) (σ1 := σ) ?_ Ag.rf (fun m => ⟨σ, ?_, QF.of Ag.rf⟩)
    · rw [s95_e, s95_0]
      by_cases c1 : x < 1
      · rw [if_pos c1, s95_11]
      · rw [if_neg c1, s95_5, if_pos (c.resolve_left c1), s95_11]
    · have ein := m_in (d := d + 11) (σ := σ) (x := x) (lo := 1) (hi := 126) (L := 1) (H := 126) rfl rfl
      rw [if_pos c] at ein
      simp only [s133_e, s133_0, s133_9, s133_12, ein, Option.bind_some, Option.toList_some, Option.toList_none, List.cons_append, List.nil_append, true_or, or_true, if_true, if_false, i10, i01, Bool.false_eq_true]
  · obtain ⟨b, hb1, hb2, rfl⟩ := rng (lo := 1) (hi := 126) (by omega) (by omega) c
    have c1 : ¬ nI b < 1 := fun z => c (Or.inl z)
    have c2 : ¬ (126 : Int32) < nI b := fun z => c (Or.inr z)
    have ein : ∀ σ : St, call (d + 11) 131 [vL (nI b).toInt64, vL 1, vL 126] σ = some (some (vI 1), σ) := fun σ => by
      have ein := m_in (d := d + 11) (σ := σ) (x := nI b) (lo := 1) (hi := 126) (L := 1) (H := 126) rfl rfl
      rw [if_neg c] at ein
      exact ein
    have e38 : (nI (xL X) = 38) = (xL X = 38) := by rw [show (38 : Int32) = nI 38 from rfl]; exact eqN (by have := P.2.1; omega) (by omega)
    have efull := c_isFull (d := d + 11) P
    by_cases c3 : xL X = 38
    · refine Step.rd hw hc hm hx (v := vI (-104)) (σ1 := σ) ?_ Ag.rf (fun m => ⟨σ, ?_, QF.of Ag.rf⟩)
      · rw [s95_e, s95_0, if_neg c1, s95_5, if_neg c2]
        rw [if_pos c3] at efull
        simp only [s95_14, s95_21, s95_24, efull, Option.bind_some, Option.toList_some, Option.toList_none, List.cons_append, List.nil_append, true_or, or_true, if_true, if_false, i10, i01, Bool.false_eq_true]
      · simp only [s133_e, s133_0, s133_9, s133_15, s133_24, ein, m.2.2.2.1.1, e38.trans (eq_true c3), Option.bind_some, Option.toList_some, Option.toList_none, List.cons_append, List.nil_append, true_or, or_true, if_true, if_false, i10, i01, Bool.false_eq_true]
    · have hL : xL X < 38 := by have := P.2.1; omega
      rw [if_neg c3] at efull
      obtain ⟨σ1, e1, P1, g1⟩ := c_pageAdd (d := d + 10) P hL hb1 (show b < 127 by omega)
      have g1' : Ag CB σ σ1 := g1.mono (fun t q z => by unfold CB; omega)
      have m1 := hm.cb g1'
      obtain ⟨σ2, hσ2⟩ : ∃ y, y = se (se σ1 30 0 (xL X) (nI b)) 7 0 1 (nI (xL X + 1)) := ⟨_, rfl⟩
      have r1 : ar (se σ1 30 0 (xL X) (nI b)) 7 0 1 = nI (xL X) := by rw [se_def, ar_sw_t (by decide)]; exact m1.2.2.2.1.1
      have f7 : ar σ2 7 0 = upd (ar σ1 7 0) 1 (nI (xL X + 1)) := by rw [hσ2]; simp only [ar_sw_t, ar_sw_s, se_def, sw_sw, ne_eq, not_false_eq_true, Nat.reduceEqDiff]
      have f30 : ar σ2 30 0 = upd (ar σ1 30 0) (xL X) (nI b) := by rw [hσ2]; simp only [ar_sw_t, ar_sw_s, se_def, sw_sw, ne_eq, not_false_eq_true, Nat.reduceEqDiff]
      have fo : ∀ t, t ≠ 7 → t ≠ 30 → ar σ2 t 0 = ar σ1 t 0 := fun t h7 h30 => by rw [hσ2]; simp only [se_def]; rw [ar_sw_t h7, ar_sw_t h30]
      refine Step.mk hw (v := vI (nI (xL X + 1))) (σ1 := σ1) (σ2 := σ2) (X' := (xs X, xg X, xL X + 1, (fun j => if j = xL X then b else xp X j), xi X, xr X, xc X, xa X)) ?_ g1' (hc.pg P1 (fun t q h2 h10 => g1.1 t q (by omega))) ?_ ?_ (m1.pg ?_ (fun t ht => fo t (by omega) (by omega)) (fun j hj => by rw [f7, upd_n hj])) hx (by show xr X ≤ _; omega)
      · rw [s95_e, s95_0, if_neg c1, s95_5, if_neg c2]
        simp only [s95_14, s95_21, s95_27, s95_35, efull, e1, Option.bind_some, Option.toList_some, Option.toList_none, List.cons_append, List.nil_append, true_or, or_true, if_true, if_false, i10, i01, Bool.false_eq_true]
      · have e7 : ar (se (se σ1 30 0 (xL X) (nI b)) 7 0 1 (nI (xL X + 1))) 7 0 1 = nI (xL X + 1) := by rw [se_def, ar_sw_s, upd_s]
        simp only [s133_e, s133_0, s133_9, s133_15, s133_27, s133_37, ein, m1.2.2.2.1.1, e38.trans (eq_false c3), oob_nI hL (show 38 ≤ 1000 by omega), clN (show xL X ≤ 100000 by omega), r1, add1N, e7, Option.bind_some, Option.toList_some, Option.toList_none, List.cons_append, List.nil_append, true_or, or_true, if_true, if_false, i10, i01, Bool.false_eq_true]
        rw [hσ2]
      · rw [hσ2]
        refine ⟨fun t q hn => ?_, rfl⟩
        by_cases hq : q = 0
        · subst hq; simp only [se_def]; rw [ar_sw_t (by omega), ar_sw_t (by omega)]
        · simp only [se_def]; rw [ar_sw_q hq, ar_sw_q hq]
      · obtain ⟨p1, p2, p3⟩ := m1.2.2.2.1
        refine ⟨by rw [f7, upd_s], hL, fun j hj => ?_⟩
        rw [f30, upd_if]
        by_cases ej : j = xL X
        · rw [if_pos ej]; dsimp only; rw [if_pos ej]; exact ⟨rfl, hb1, by omega⟩
        · rw [if_neg ej]; dsimp only; rw [if_neg ej]; exact p3 j (by omega)
theorem op_blank (hw : Wf σ) (hc : CAt σ X) (hm : MAt σ X) (hx : WfX X) : Step d 96 134 [] X σ := by
  obtain ⟨σ1, e1, P1, g1⟩ := c_pageClear (d := d + 11) hc.2.2.1
  have g1' : Ag CB σ σ1 := g1.mono (fun t q z => by unfold CB; omega)
  have m1 := hm.cb g1'
  have f7 : ar (se σ1 7 0 1 0) 7 0 = upd (ar σ1 7 0) 1 0 := by simp only [ar_sw_t, ar_sw_s, se_def, sw_sw, ne_eq, not_false_eq_true, Nat.reduceEqDiff]
  have fo : ∀ t, t ≠ 7 → ar (se σ1 7 0 1 0) t 0 = ar σ1 t 0 := fun t h7 => by rw [se_def, ar_sw_t h7]
  refine Step.mk hw (v := vI (nI (xL X))) (σ1 := σ1) (σ2 := se σ1 7 0 1 0) (X' := (xs X, xg X, 0, xp X, xi X, xr X, xc X, xa X)) ?_ g1' (hc.pg P1 (fun t q h2 h10 => g1.1 t q (by omega))) ?_ ?_ (m1.pg ⟨by rw [f7, upd_s]; rfl, by omega, fun j hj => by omega⟩ (fun t ht => fo t (by omega)) (fun j hj => by rw [f7, upd_n hj])) hx (by show xr X ≤ _; omega)
  · simp only [s96_e, s96_0, s96_7, e1, Option.bind_some, Option.toList_some, Option.toList_none, List.cons_append, List.nil_append, true_or, or_true, if_true, if_false, i10, i01, Bool.false_eq_true]
  · rw [s134_e, s134_0, m1.2.2.2.1.1]
  · exact AgM.of (S := fun t q => t = 7 ∧ q = 0) (Ag.sw ⟨rfl, rfl⟩) (fun t q z => ⟨z.2, Or.inl z.1⟩)
theorem op_fault (hw : Wf σ) (hc : CAt σ X) (hm : MAt σ X) (hx : WfX X) : Step d 97 139 [] X σ := by
  refine Step.rd hw hc hm hx (v := vI (nI (flt (xp X) (xL X) none 0).1)) (σ1 := σ) ?_ Ag.rf (fun m => ?_)
  · have e1 := c_faultPlace (d := d + 4) hc.2.2.1
    simp only [s97_e, s97_0, s97_7, e1, Option.bind_some, Option.toList_some, Option.toList_none, List.cons_append, List.nil_append, true_or, or_true, if_true, if_false, i10, i01, Bool.false_eq_true]
  · obtain ⟨σ2, e2, q2, g2⟩ := m_faultOf (d := d + 9) m.2.2.2.1
    exact ⟨σ2, by simp only [s139_e, s139_0, s139_4, e2, Option.bind_some, Option.toList_some, Option.toList_none, List.cons_append, List.nil_append, true_or, or_true, if_true, if_false, i10, i01, Bool.false_eq_true], g2⟩
/-- angers that are told are angers -/
theorem tA_ok {p : Nat → Nat} {L e : Nat} (hp : ∀ j, j < L → p j < 127) (hs : isSq p L = some e) : ∀ i, i ≤ (L - e - 1) / 3 → ZA (e / 3 + 1) (tA p e i) ∧ R20 (tA p e i)
  | 0, _ => ⟨fun _ _ _ => rfl, fun _ _ => ⟨0, by omega, rfl⟩⟩
  | i + 1, hi => by
    obtain ⟨z1, z2⟩ := tA_ok hp hs i (by omega)
    obtain ⟨x, y, g, hx, hy, hxy, hg0, hg, p0, p1, p2⟩ := told_facts hp hs (show i < (L - e - 1) / 3 by omega)
    have h17 := (isSq_facts hp hs).2.2.2.1
    rw [tA, p0, p1, p2, show 48 + x - 48 = x by omega, show 48 + y - 48 = y by omega, show 48 + g - 48 = g by omega]
    exact ⟨fun j hj hc => by rw [upd_n (by omega)]; exact z1 j hj hc, R20_upd z2⟩
theorem op_square (hw : Wf σ) (hc : CAt σ X) (hm : MAt σ X) (hx : WfX X) (hr : xr X ≤ 1000) : Step d 98 141 [] X σ := by
  have P := hc.2.2.1
  have eS := c_isSquare (d := d + 3) P
  cases hs : isSq (xp X) (xL X) with
  | none =>
    refine Step.rd hw hc hm hx (v := vI (-103)) (σ1 := σ) ?_ Ag.rf (fun m => ?_)
    · rw [hs] at eS
      simp only [s98_e, s98_0, s98_7, s98_10, eS, Option.isSome_none, Option.bind_some, Option.toList_some, Option.toList_none, List.cons_append, List.nil_append, true_or, or_true, if_true, if_false, i10, i01, Bool.false_eq_true]
    · obtain ⟨σ2, e2, g2⟩ := m_square_f (d := d + 9) m.2.2.2.1 hs
      exact ⟨σ2, e2, g2⟩
  | some e =>
    rw [hs] at eS
    have hp127 := P.lt
    obtain ⟨a1, a2, a3, a4, a5, a6, a7, a8, a9, a10⟩ := isSq_facts hp127 hs
    obtain ⟨σ1, e1, S1, g1⟩ := c_readFrom (d := d + 3) hw P hs hc.1
    have P1 : PgAt σ1 (xL X) (xp X) := P.fr (fun t ht => g1.1 t 0 (by unfold SB; omega))
    obtain ⟨σ2, e2, P2, g2⟩ := c_pageClear (d := d + 11) P1
    have G2 : SgAt σ2 0 (xg X) := (hc.2.1.fr (fun t ht => g1.1 t 0 (by unfold SB; omega))).fr (fun t ht => g2.1 t 0 (by omega))
    obtain ⟨σ3, e3, G3, g3⟩ := c_seenClear (d := d + 11) G2
    obtain ⟨σ4, hσ4⟩ : ∃ y, y = se (se σ3 6 0 8 0) 6 0 9 (nI (xr X + 1)) := ⟨_, rfl⟩
    have f6 : ar σ4 6 0 = upd (upd (ar σ3 6 0) 8 0) 9 (nI (xr X + 1)) := by rw [hσ4]; simp only [ar_sw_t, ar_sw_s, se_def, sw_sw, ne_eq, not_false_eq_true, Nat.reduceEqDiff]
    have g4 : Ag (fun t q => t = 6 ∧ q = 0) σ3 σ4 := by rw [hσ4]; exact (Ag.sw ⟨rfl, rfl⟩).tr (Ag.sw ⟨rfl, rfl⟩)
    have o6 : ar σ3 6 0 = ar σ 6 0 := by rw [g3.1 6 0 (by unfold GB; omega), g2.1 6 0 (by omega), g1.1 6 0 (by unfold SB; omega)]
    have r9 : ar (se σ3 6 0 8 0) 6 0 9 = nI (xr X) := by rw [se_def, ar_sw_s, upd_n (by decide), o6]; exact hc.2.2.2.2.1
    have S4 : SqAt σ4 0 (rdS (xp X) (xL X) e (xs X)) := ((S1.fr (fun t ht => g2.1 t 0 (by omega))).fr (fun t ht => g3.1 t 0 (by unfold GB; omega))).fr (fun t ht => g4.1 t 0 (by omega))
    have gC : Ag CB σ σ4 := (((CB.sb g1).tr (g2.mono (fun t q z => by unfold CB; omega))).tr (g3.mono (fun t q z => by unfold GB at z; unfold CB; omega))).tr (g4.mono (fun t q z => by unfold CB; omega))
    have c4 : CAt σ4 (rdS (xp X) (xL X) e (xs X), (0, gh (xg X), gf (xg X), gm (xg X)), 0, xp X, none, xr X + 1, xc X, xa X) := by
      refine ⟨S4, G3.fr (fun t ht => g4.1 t 0 (by omega)), (P2.fr (fun t ht => g3.1 t 0 (by unfold GB; omega))).fr (fun t ht => g4.1 t 0 (by omega)), ?_, ?_, ?_, ?_⟩
      · show ar σ4 6 0 8 = 0
        rw [f6, upd_n (by decide), upd_s]
      · rw [f6, upd_s]; rfl
      · rw [f6, upd_n (by decide), upd_n (by decide), o6]; exact hc.2.2.2.2.2.1
      · rw [f6, upd_n (by decide), upd_n (by decide), o6]; exact hc.2.2.2.2.2.2
    have m4 := hm.cb gC
    obtain ⟨σ5, e5, ⟨v3, v1, v4, v5, v6, v7, v24, v8, vo⟩, H5, K5, A5, W5, g5⟩ := m_square_t (d := d + 9) m4.2.2.2.1 hs
    obtain ⟨tz, tr⟩ := tA_ok hp127 hs ((xL X - e - 1) / 3) (Nat.le_refl _)
    refine Step.mk hw (v := vI (nI (e / 3 + 1))) (σ1 := σ4) (σ2 := σ5) (X' := (rdS (xp X) (xL X) e (xs X), (0, gh (xg X), gf (xg X), gm (xg X)), 0, xp X, none, xr X + 1, xc X, xa X)) ?_ gC c4 e5 (AgM.of g5 (fun t q z => by unfold SqF at z; omega)) ?_ ?_ (Nat.le_refl _)
    · have e6 := c_size (d := d + 11) (σ := σ4) (q := 0)
      rw [S4.1.1] at e6
      have e6' : call (d + 11) 51 [vR 5 0] (se (se σ3 6 0 8 0) 6 0 9 (nI (xr X + 1))) = some (some (vI (nI (e / 3 + 1))), σ4) := by rw [← hσ4]; exact e6
      simp only [s98_e, s98_0, s98_7, s98_13, s98_24, s98_31, s98_39, s98_45, s98_62, eS, e1, e2, e3, r9, add1N, e6', Option.isSome_some, Option.bind_some, Option.toList_some, Option.toList_none, List.cons_append, List.nil_append, true_or, or_true, if_true, if_false, i10, i01, Bool.false_eq_true]
    · refine ⟨⟨v3, fun a ha => ?_, fun j hj => W5 j hj⟩, fun j hj => A5 j hj, ⟨v24, by show 0 ≤ 8; omega, fun i hi => by have : i < 0 := hi; omega⟩, ⟨v1, by show 0 ≤ 38; omega, fun j hj => by have : j < 0 := hj; omega⟩, ⟨fun a ha => ?_, fun a ha => (H5 a ha).2.2.1, fun a ha => (H5 a ha).2.2.2, v4, v5, v6, v7⟩, ?_, ?_, ?_, ?_⟩
      · show ar σ5 31 0 a = rdK (xp X) (e / 3 + 1) (qK (xs X)) a
        unfold rdK
        by_cases ca : a < e / 3 + 1
        · rw [if_pos ca]; exact (H5 a ca).1
        · rw [if_neg ca, K5 a (by omega)]; exact m4.1.2.1 a ha
      · show ar σ5 32 0 a = rdV (xp X) (e / 3 + 1) (qV (xs X)) a
        have ha' : a < e / 3 + 1 := ha
        unfold rdV
        rw [if_pos ha']
        exact (H5 a ha').2.1
      · have h30 : ar σ5 7 0 30 = ar σ4 7 0 30 := vo 30 (by omega)
        have := m4.2.2.2.2.2.1
        show ∃ k : Option Nat, ar σ5 7 0 30 = en k ∧ ∀ x, k = some x → x < xr X + 1
        rw [h30]
        unfold MkAt at this
        cases hi : xi X with
        | none =>
          rw [hi] at this
          obtain ⟨k, k1, k2⟩ := this
          exact ⟨k, k1, fun x hx => by have := k2 x hx; omega⟩
        | some y =>
          rw [hi] at this
          exact ⟨some (xr X), this.1, fun x hx => by cases hx; omega⟩
      · show ar σ5 7 0 8 = nI (xr X + 1)
        rw [v8, m4.2.2.2.2.2.2.1, add1N]
      · rw [vo 20 (by omega)]; exact m4.2.2.2.2.2.2.2.1
      · rw [vo 23 (by omega)]; exact m4.2.2.2.2.2.2.2.2
    · refine ⟨⟨Or.inr (by show 3 ≤ e / 3 + 1; omega), by show e / 3 + 1 ≤ 6; omega, fun j _ => Or.inl rfl, fun _ _ _ _ => rfl, fun _ _ => rfl, tz, tr, by show 0 ≤ 999; omega⟩, fun i hi => by have : i < 0 := hi; omega, by show 0 ≤ 8; omega, hx.2.2.2.1, hx.2.2.2.2.1, fun s g h => by cases h⟩
end O1

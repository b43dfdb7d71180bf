/-! Calls of both: what is told of houses. -/
section O2
variable {d : Nat} {σ σ' : St} {X : Ab}
theorem inN {σ : St} {x : Int32} {lo hi : Nat} {L H : Int64} (hL : L = (nI lo).toInt64) (hH : H = (nI hi).toInt64) (hlo : lo ≤ 1000) (hhi : hi ≤ 1000) : (call d 131 [vL x.toInt64, vL L, vL H] σ = some (some (vI 0), σ) ∧ (x < nI lo ∨ nI hi < x)) ∨ ∃ j, lo ≤ j ∧ j ≤ hi ∧ x = nI j ∧ call d 131 [vL (nI j).toInt64, vL L, vL H] σ = some (some (vI 1), σ) := by
  have e := m_in (d := d) (σ := σ) (x := x) (lo := nI lo) (hi := nI hi) hL hH
  by_cases c : x < nI lo ∨ nI hi < x
  · rw [if_pos c] at e
    exact Or.inl ⟨e, c⟩
  · rw [if_neg c] at e
    obtain ⟨j, h1, h2, rfl⟩ := rng hlo hhi c
    exact Or.inr ⟨j, h1, h2, rfl, e⟩
theorem m_in1 {σ : St} {lo hi j : Nat} {L H : Int64} (hL : L = (nI lo).toInt64) (hH : H = (nI hi).toInt64) (hhi : hi ≤ 1000) (h1 : lo ≤ j) (h2 : j ≤ hi) : call d 131 [vL (nI j).toInt64, vL L, vL H] σ = some (some (vI 1), σ) := by
  have e := m_in (d := d) (σ := σ) (x := nI j) (lo := nI lo) (hi := nI hi) hL hH
  rw [if_neg (by rw [ltN (by omega) (by omega), ltN (by omega) (by omega)]; omega)] at e
  exact e
theorem m_in0 {σ : St} {x : Int32} {lo hi : Nat} {L H : Int64} (hL : L = (nI lo).toInt64) (hH : H = (nI hi).toInt64) (h : x < nI lo ∨ nI hi < x) : call d 131 [vL x.toInt64, vL L, vL H] σ = some (some (vI 0), σ) := by
  have e := m_in (d := d) (σ := σ) (x := x) (lo := nI lo) (hi := nI hi) hL hH
  rw [if_pos h] at e
  exact e
theorem c_house_x {x y : Int32} (h6 : qn (xs X) ≤ 6) (hc : CAt σ X) : (call (d + 4) 99 [vR 6 0, vI x, vI y] σ = some (some (vI (-101)), σ) ∧ ¬ isH (qn (xs X)) x) ∨ (∃ a, a < qn (xs X) ∧ x = nI a ∧ (∀ w, 0 ≤ w → w < 11 → y ≠ nI w) ∧ call (d + 4) 99 [vR 6 0, vI (nI a), vI y] σ = some (some (vI (-102)), σ)) ∨ ∃ a w, a < qn (xs X) ∧ w < 11 ∧ x = nI a ∧ y = nI w := by
  have hn := hc.1.1.1
  by_cases c : isH (qn (xs X)) x
  · obtain ⟨a, ha, rfl⟩ := c
    refine Or.inr ?_
    by_cases c2 : ∃ w, w < 11 ∧ y = nI w
    · obtain ⟨w, hw, rfl⟩ := c2
      exact Or.inr ⟨a, w, ha, hw, rfl, rfl⟩
    · refine Or.inl ⟨a, ha, rfl, fun w _ hw z => c2 ⟨w, hw, z⟩, ?_⟩
      simp only [s99_e, s99_0, s99_8, w99_x (fun w _ hw z => c2 ⟨w, hw, z⟩), s99_179, c_isHouse_t (d := d + 3) hn h6 ha, Option.bind_some, Option.toList_some, Option.toList_none, List.cons_append, List.nil_append, true_or, or_true, if_true, if_false, i10, i01, Bool.false_eq_true]
  · refine Or.inl ⟨?_, c⟩
    simp only [s99_e, s99_0, s99_8, s99_11, c_isHouse_f (d := d + 3) hn h6 c, Option.bind_some, Option.toList_some, Option.toList_none, List.cons_append, List.nil_append, true_or, or_true, if_true, if_false, i10, i01, Bool.false_eq_true]
theorem op_house {x y : Int32} (hw : Wf σ) (hc : CAt σ X) (hm : MAt σ X) (hx : WfX X) : Step d 99 157 [vI x, vI y] X σ := by
  have h6 := hx.1.2.1
  have hW1 := hx.1.2.2.1
  rcases c_house_x (d := d + 8) (x := x) (y := y) h6 hc with ⟨e1, c⟩ | ⟨a, ha, rfl, c, e1⟩ | ⟨a, w, ha, hw', rfl, rfl⟩
  · refine Step.rd hw hc hm hx e1 Ag.rf (fun m => ⟨σ, ?_, QF.of Ag.rf⟩)
    simp only [s157_e, s157_0, s157_5, s157_17, s157_19, m_isHouse_f (d := d + 10) m.1.1 h6 c, Option.bind_some, Option.toList_some, Option.toList_none, List.cons_append, List.nil_append, true_or, or_true, if_true, if_false, i10, i01, Bool.false_eq_true]
  · refine Step.rd hw hc hm hx e1 Ag.rf (fun m => ?_)
    obtain ⟨σ1, e2, F1, g1⟩ := m_layFaces' (d := d + 9) (Or.inl rfl) h6 hW1 m.1 m.2.1
    refine ⟨σ1, ?_, QF.of g1.fq⟩
    simp only [s157_e, s157_0, s157_5, s157_8, s157_14, s157_19, s156_e, s156_0, w156_x c, s156_154, m_isHouse_t (d := d + 10) m.1.1 h6 ha, e2, Option.bind_some, Option.toList_some, Option.toList_none, List.cons_append, List.nil_append, true_or, or_true, if_true, if_false, i10, i01, Bool.false_eq_true]
  · refine Step.rd hw hc hm hx (c_tell (d := d + 8) h6 hc.1 ha hw') Ag.rf (fun m => ?_)
    obtain ⟨σ1, e2, g1⟩ := m_tellHouse (d := d + 8) h6 hW1 m.1 m.2.1 m.2.2.2.2.1 ha hw'
    refine ⟨σ1, ?_, QF.of g1⟩
    simp only [s157_e, s157_0, s157_5, s157_8, s157_14, s157_19, m_isHouse_t (d := d + 10) m.1.1 h6 ha, e2, Option.bind_some, Option.toList_some, Option.toList_none, List.cons_append, List.nil_append, true_or, or_true, if_true, if_false, i10, i01, Bool.false_eq_true]
theorem c_isKind_t {k : Nat} (hk : k < 5) : call d 126 [vI (nI k)] σ = some (some (vI 1), σ) := by
  have l5 : nI k < 5 := by rw [show (5 : Int32) = nI 5 from rfl]; exact ltn hk (by omega)
  simp only [s126_0, s126_4, s126_9, s126_14, s126_e, nI_pos (show k < 2 ^ 31 by omega), l5, Option.bind_some, Option.toList_some, Option.toList_none, List.cons_append, List.nil_append, true_or, or_true, if_true, if_false, i10, i01, Bool.false_eq_true]
theorem c_isKind_f {x : Int32} (h : x < nI 0 ∨ nI 4 < x) : call d 126 [vI x] σ = some (some (vI 0), σ) := by
  by_cases c : x < 0
  · simp only [s126_0, s126_13, s126_14, s126_e, c, Option.bind_some, Option.toList_some, Option.toList_none, List.cons_append, List.nil_append, true_or, or_true, if_true, if_false, i10, i01, Bool.false_eq_true]
  · have c2 : ¬ x < 5 := fun z => by
      rcases h with h | h
      · exact c h
      · obtain ⟨j, hj, rfl⟩ := nI_of c
        have z' := (nI_ltI (b := 5) hj (by omega)).mp z
        have h' := (nI_ltI (a := 4) (by omega) hj).mp h
        omega
    simp only [s126_0, s126_4, s126_13, s126_14, s126_e, c, c2, Option.bind_some, Option.toList_some, Option.toList_none, List.cons_append, List.nil_append, true_or, or_true, if_true, if_false, i10, i01, Bool.false_eq_true]
theorem isSuch_v {y z : Int32} : ∃ b : Bool, (∀ (d : Nat) (σ : St), call d 127 [vI y, vI z] σ = some (some (vI (if b = true then 1 else 0)), σ)) ∧ (b = true ↔ z = 0 ∨ z = y ∨ (z = 1 ∧ y = 4)) := by
  by_cases c1 : z = 0
  · exact ⟨true, fun d σ => by simp only [s127_0, s127_19, s127_24, s127_e, c1, Option.bind_some, Option.toList_some, Option.toList_none, List.cons_append, List.nil_append, true_or, or_true, if_true, if_false, i10, i01, Bool.false_eq_true], by simp [c1]⟩
  · by_cases c2 : z = y
    · exact ⟨true, fun d σ => by simp only [s127_0, s127_4, s127_19, s127_24, s127_e, c1, if_pos c2, Option.bind_some, Option.toList_some, Option.toList_none, List.cons_append, List.nil_append, true_or, or_true, if_true, if_false, i10, i01, Bool.false_eq_true], by simp [c2]⟩
    · by_cases c3 : z = 1
      · by_cases c4 : y = 4
        · exact ⟨true, fun d σ => by rw [s127_e, s127_0, if_neg c1, s127_4, if_neg c2, s127_9, if_pos c3, s127_14, if_pos c4, s127_19, s127_24]; rfl, by simp [c3, c4]⟩
        · exact ⟨false, fun d σ => by rw [s127_e, s127_0, if_neg c1, s127_4, if_neg c2, s127_9, if_pos c3, s127_14, if_neg c4, s127_23, s127_24]; rfl, ⟨fun h => (by cases h), fun h => by rcases h with h | h | h; exact absurd h c1; exact absurd h c2; exact absurd h.2 c4⟩⟩
      · exact ⟨false, fun d σ => by rw [s127_e, s127_0, if_neg c1, s127_4, if_neg c2, s127_9, if_neg c3, s127_23, s127_24]; rfl, ⟨fun h => (by cases h), fun h => by rcases h with h | h | h; exact absurd h c1; exact absurd h c2; exact absurd h.1 c3⟩⟩
theorem op_as {x y : Int32} (hw : Wf σ) (hc : CAt σ X) (hm : MAt σ X) (hx : WfX X) : Step d 100 158 [vI x, vI y] X σ := by
  have h6 := hx.1.2.1
  have hn := hc.1.1.1
  by_cases c : isH (qn (xs X)) x
  · obtain ⟨a, ha, rfl⟩ := c
    have ia := oob_nI (show a < 6 by omega) (show 6 ≤ 1000 by omega)
    have ca := cl6 (show a < 6 by omega)
    by_cases c2 : y < nI 0 ∨ nI 4 < y
    · refine Step.rd hw hc hm hx (v := vI (-102)) (σ1 := σ) ?_ Ag.rf (fun m => ⟨σ, ?_, QF.of Ag.rf⟩)
      · simp only [s100_e, s100_0, s100_8, s100_14, s100_18, s100_21, c_isHouse_t (d := d + 11) hn h6 ha, c_isKind_f c2, Option.bind_some, Option.toList_some, Option.toList_none, List.cons_append, List.nil_append, true_or, or_true, if_true, if_false, i10, i01, Bool.false_eq_true]
      · simp only [s158_e, s158_0, s158_5, s158_11, s158_20, s158_23, m_isHouse_t (d := d + 10) m.1.1 h6 ha, m_in0 (L := 0) (H := 4) rfl rfl c2, Option.bind_some, Option.toList_some, Option.toList_none, List.cons_append, List.nil_append, true_or, or_true, if_true, if_false, i10, i01, Bool.false_eq_true]
    · obtain ⟨k, -, hk, rfl⟩ := rng (lo := 0) (hi := 4) (by omega) (by omega) c2
      obtain ⟨b, hb, hb2⟩ := isSuch_v (y := qK (xs X) a) (z := nI k)
      have eK := c_kindOf (d := d + 11) (σ := σ) (q := 0) (show a < 6 by omega)
      rw [hc.1.1.2.1] at eK
      refine Step.rd hw hc hm hx (v := vI (if b = true then nI a else -1)) (σ1 := σ) ?_ Ag.rf (fun m => ⟨σ, ?_, QF.of Ag.rf⟩)
      · cases b with
        | true => simp only [s100_e, s100_0, s100_8, s100_14, s100_18, s100_24, s100_32, s100_36, s100_39, s100_44, c_isHouse_t (d := d + 11) hn h6 ha, c_isKind_t (show k < 5 by omega), eK, hb, Option.bind_some, Option.toList_some, Option.toList_none, List.cons_append, List.nil_append, true_or, or_true, if_true, if_false, i10, i01, Bool.false_eq_true]
        | false => simp only [s100_e, s100_0, s100_8, s100_14, s100_18, s100_24, s100_32, s100_36, s100_43, s100_44, c_isHouse_t (d := d + 11) hn h6 ha, c_isKind_t (show k < 5 by omega), eK, hb, Option.bind_some, Option.toList_some, Option.toList_none, List.cons_append, List.nil_append, true_or, or_true, if_true, if_false, i10, i01, Bool.false_eq_true]
      · have mK := m.1.2.1 a (show a < 6 by omega)
        have st : call (d + 12) 158 [vR 7 0, vI (nI a), vI (nI k)] σ = exec (d + 12) 158 26 [vR 7 0, vI (nI a), vI (nI k), vN] [] σ := by
          simp only [s158_e, s158_0, s158_5, s158_11, s158_20, m_isHouse_t (d := d + 10) m.1.1 h6 ha, m_in1 (L := 0) (H := 4) (lo := 0) (hi := 4) rfl rfl (by omega) (Nat.zero_le k) hk, Option.bind_some, Option.toList_some, Option.toList_none, List.cons_append, List.nil_append, true_or, or_true, if_true, if_false, i10, i01, Bool.false_eq_true]
        rw [st]
        have ot : exec (d + 12) 158 55 [vR 7 0, vI (nI a), vI (nI k), vN] [] σ = some (some (vI (nI a)), σ) := by
          rw [s158_55, s158_60, if_neg (show ¬ (1 : Int32) = 0 by decide), s158_65, s158_70]
        have of' : exec (d + 12) 158 59 [vR 7 0, vI (nI a), vI (nI k), vN] [] σ = some (some (vI (-1)), σ) := by
          rw [s158_59, s158_60, if_pos rfl, s158_69, s158_70]
        rw [s158_26]
        by_cases c1 : nI k = 0
        · rw [if_pos c1, ot, if_pos (hb2.mpr (Or.inl c1))]
        · rw [if_neg c1, s158_30, if_neg (show ¬ oob (nI a) 6 = true by rw [ia]; exact Bool.false_ne_true), ca, mK, s158_37]
          by_cases c3 : nI k = qK (xs X) a
          · rw [if_pos c3, ot, if_pos (hb2.mpr (Or.inr (Or.inl c3)))]
          · rw [if_neg c3, s158_40]
            by_cases c4 : nI k = 1
            · rw [if_pos c4, s158_45, if_neg (show ¬ oob (nI a) 6 = true by rw [ia]; exact Bool.false_ne_true), ca, mK, s158_51]
              by_cases c5 : qK (xs X) a = 4
              · rw [if_pos c5, ot, if_pos (hb2.mpr (Or.inr (Or.inr ⟨c4, c5⟩)))]
              · rw [if_neg c5, of', if_neg (fun z => by rcases hb2.mp z with h | h | h; exact c1 h; exact c3 h; exact c5 h.2)]
            · rw [if_neg c4, of', if_neg (fun z => by rcases hb2.mp z with h | h | h; exact c1 h; exact c3 h; exact c4 h.1)]
  · refine Step.rd hw hc hm hx (v := vI (-101)) (σ1 := σ) ?_ Ag.rf (fun m => ⟨σ, ?_, QF.of Ag.rf⟩)
    · simp only [s100_e, s100_0, s100_8, s100_11, c_isHouse_f (d := d + 11) hn h6 c, Option.bind_some, Option.toList_some, Option.toList_none, List.cons_append, List.nil_append, true_or, or_true, if_true, if_false, i10, i01, Bool.false_eq_true]
    · simp only [s158_e, s158_0, s158_5, s158_8, m_isHouse_f (d := d + 10) m.1.1 h6 c, Option.bind_some, Option.toList_some, Option.toList_none, List.cons_append, List.nil_append, true_or, or_true, if_true, if_false, i10, i01, Bool.false_eq_true]
theorem op_anger {x y : Int32} (hw : Wf σ) (hc : CAt σ X) (hm : MAt σ X) (hx : WfX X) : Step d 101 159 [vI x, vI y] X σ := by
  have h6 := hx.1.2.1
  have hn := hc.1.1.1
  by_cases c : isT (qn (xs X)) x y
  · obtain ⟨a, b, ha, hb, hab, rfl, rfl⟩ := c
    have e := c_angerAt (d := d + 10) (σ := σ) (q := 0) (show a < 6 by omega) (show b < 6 by omega)
    rw [hc.1.1.2.2.2.1] at e
    refine Step.rd hw hc hm hx (v := vI (qA (xs X) (6 * a + b))) (σ1 := σ) ?_ Ag.rf (fun m => ⟨σ, ?_, QF.of Ag.rf⟩)
    · simp only [s101_e, s101_0, s101_9, s101_12, s101_21, s101_26, c_areTwo_t (d := d + 10) hn h6 ha hb hab, e, Option.bind_some, Option.toList_some, Option.toList_none, List.cons_append, List.nil_append, true_or, or_true, if_true, if_false, i10, i01, Bool.false_eq_true]
    · simp only [s159_e, s159_0, s159_6, s159_9, s159_20, s159_25, m_areTwo_t (d := d + 9) m.1.1 h6 ha hb hab, mul6N', addN, oob_nI (show 6 * a + b < 36 by omega) (show 36 ≤ 1000 by omega), clN (show 6 * a + b ≤ 100000 by omega), m.2.1 (6 * a + b) (by omega), Option.bind_some, Option.toList_some, Option.toList_none, List.cons_append, List.nil_append, true_or, or_true, if_true, if_false, i10, i01, Bool.false_eq_true]
  · refine Step.rd hw hc hm hx (v := vI (-101)) (σ1 := σ) ?_ Ag.rf (fun m => ⟨σ, ?_, QF.of Ag.rf⟩)
    · simp only [s101_e, s101_0, s101_9, s101_24, s101_26, c_areTwo_f (d := d + 10) hn h6 c, Option.bind_some, Option.toList_some, Option.toList_none, List.cons_append, List.nil_append, true_or, or_true, if_true, if_false, i10, i01, Bool.false_eq_true]
    · simp only [s159_e, s159_0, s159_6, s159_23, s159_25, m_areTwo_f (d := d + 9) m.1.1 h6 c, Option.bind_some, Option.toList_some, Option.toList_none, List.cons_append, List.nil_append, true_or, or_true, if_true, if_false, i10, i01, Bool.false_eq_true]
theorem op_wall {x y : Int32} (hw : Wf σ) (hc : CAt σ X) (hm : MAt σ X) (hx : WfX X) : Step d 103 162 [vI x, vI y] X σ := by
  have h6 := hx.1.2.1
  have hn := hc.1.1.1
  by_cases c : isT (qn (xs X)) x y
  · obtain ⟨a, b, ha, hb, hab, rfl, rfl⟩ := c
    have e := c_wallBetween (d := d + 10) (σ := σ) (q := 0) (show a < 6 by omega) (show b < 6 by omega)
    rw [hc.1.1.2.2.1] at e
    refine Step.rd hw hc hm hx (v := vI (qW (xs X) (6 * a + b))) (σ1 := σ) ?_ Ag.rf (fun m => ⟨σ, ?_, QF.of Ag.rf⟩)
    · simp only [s103_e, s103_0, s103_9, s103_12, s103_21, s103_26, c_areTwo_t (d := d + 10) hn h6 ha hb hab, e, Option.bind_some, Option.toList_some, Option.toList_none, List.cons_append, List.nil_append, true_or, or_true, if_true, if_false, i10, i01, Bool.false_eq_true]
    · simp only [s162_e, s162_0, s162_6, s162_9, s162_20, s162_25, m_areTwo_t (d := d + 9) m.1.1 h6 ha hb hab, mul6N', addN, oob_nI (show 6 * a + b < 36 by omega) (show 36 ≤ 1000 by omega), clN (show 6 * a + b ≤ 100000 by omega), m.1.2.2 (6 * a + b) (by omega), Option.bind_some, Option.toList_some, Option.toList_none, List.cons_append, List.nil_append, true_or, or_true, if_true, if_false, i10, i01, Bool.false_eq_true]
  · refine Step.rd hw hc hm hx (v := vI (-101)) (σ1 := σ) ?_ Ag.rf (fun m => ⟨σ, ?_, QF.of Ag.rf⟩)
    · simp only [s103_e, s103_0, s103_9, s103_24, s103_26, c_areTwo_f (d := d + 10) hn h6 c, Option.bind_some, Option.toList_some, Option.toList_none, List.cons_append, List.nil_append, true_or, or_true, if_true, if_false, i10, i01, Bool.false_eq_true]
    · simp only [s162_e, s162_0, s162_6, s162_23, s162_25, m_areTwo_f (d := d + 9) m.1.1 h6 c, Option.bind_some, Option.toList_some, Option.toList_none, List.cons_append, List.nil_append, true_or, or_true, if_true, if_false, i10, i01, Bool.false_eq_true]
theorem op_line {x y : Int32} (hw : Wf σ) (hc : CAt σ X) (hm : MAt σ X) (hx : WfX X) : Step d 102 161 [vI x, vI y] X σ := by
  have h6 := hx.1.2.1
  have hn := hc.1.1.1
  have hF : ∀ a, a < qn (xs X) → ar σ 13 0 a = en (qF (xs X) a) := hc.1.1.2.2.2.2
  have hv : ∀ a b, qF (xs X) a = some b → b < qn (xs X) := fun a b h => qF_lt h
  by_cases c : isH (qn (xs X)) x
  · obtain ⟨a, ha, rfl⟩ := c
    by_cases c2 : y < nI 0 ∨ nI 5 < y
    · refine Step.rd hw hc hm hx (v := vI (-102)) (σ1 := σ) ?_ Ag.rf (fun m => ⟨σ, ?_, QF.of Ag.rf⟩)
      · by_cases c3 : y < 0
        · simp only [s102_e, s102_0, s102_8, s102_14, s102_24, c_isHouse_t (d := d + 11) hn h6 ha, c3, Option.bind_some, Option.toList_some, Option.toList_none, List.cons_append, List.nil_append, true_or, or_true, if_true, if_false, i10, i01, Bool.false_eq_true]
        · have c4 : ¬ y < 6 := fun z => by
            rcases c2 with h | h
            · exact c3 h
            · obtain ⟨j, hj, rfl⟩ := nI_of c3
              have z' := (nI_ltI (b := 6) hj (by omega)).mp z
              have h' := (nI_ltI (a := 5) (by omega) hj).mp h
              omega
          simp only [s102_e, s102_0, s102_8, s102_14, s102_18, s102_24, c_isHouse_t (d := d + 11) hn h6 ha, c3, c4, Option.bind_some, Option.toList_some, Option.toList_none, List.cons_append, List.nil_append, true_or, or_true, if_true, if_false, i10, i01, Bool.false_eq_true]
      · simp only [s161_e, s161_0, s161_5, s161_11, s161_20, s161_32, s161_34, m_isHouse_t (d := d + 10) m.1.1 h6 ha, m_in0 (L := 0) (H := 5) rfl rfl c2, Option.bind_some, Option.toList_some, Option.toList_none, List.cons_append, List.nil_append, true_or, or_true, if_true, if_false, i10, i01, Bool.false_eq_true]
    · obtain ⟨k, -, hk, rfl⟩ := rng (lo := 0) (hi := 5) (by omega) (by omega) c2
      have l6 : nI k < 6 := by rw [show (6 : Int32) = nI 6 from rfl]; exact ltn (by omega) (by omega)
      refine Step.rd hw hc hm hx (v := vI (en ((vgo (qF (xs X)) (qn (xs X)) 0 (some a))[k]?))) (σ1 := σ) ?_ Ag.rf (fun m => ?_)
      · have e := c_onLine (d := d + 10) hn h6 hF hv ha (show k < 1000 by omega)
        simp only [s102_e, s102_0, s102_8, s102_14, s102_18, s102_27, s102_36, c_isHouse_t (d := d + 11) hn h6 ha, nI_pos (show k < 2 ^ 31 by omega), l6, e, Option.bind_some, Option.toList_some, Option.toList_none, List.cons_append, List.nil_append, true_or, or_true, if_true, if_false, i10, i01, Bool.false_eq_true]
      · obtain ⟨σ1, e1, F1, g1⟩ := m_layFaces' (d := d + 9) (Or.inl rfl) h6 hx.1.2.2.1 m.1 m.2.1
        have h1 := m.1.qm g1.fq
        obtain ⟨σ2, e2, q2, g2⟩ := m_layLine (d := d + 10) (F := qF (xs X)) h1.1 h6 F1 hv ha
        have hl := vgo_len (F := qF (xs X)) (qn (xs X)) 0 (some a)
        have elt : (nI k < nI (vgo (qF (xs X)) (qn (xs X)) 0 (some a)).length) = (k < (vgo (qF (xs X)) (qn (xs X)) 0 (some a)).length) := ltN (by omega) (by omega)
        refine ⟨σ2, ?_, QF.of (g1.fq.tr (g2.mono (fun x q z => by unfold QM; omega)))⟩
        by_cases c3 : k < (vgo (qF (xs X)) (qn (xs X)) 0 (some a)).length
        · have eq1 := List.getElem?_eq_getElem c3
          have er := q2 _ _ eq1
          rw [eq1, en_some]
          simp only [s161_e, s161_0, s161_5, s161_11, s161_20, s161_23, s161_29, s161_34, s160_e, s160_0, s160_8, s160_14, s160_17, s160_23, s160_27, m_isHouse_t (d := d + 10) m.1.1 h6 ha, m_in1 (L := 0) (H := 5) (lo := 0) (hi := 5) rfl rfl (by omega) (Nat.zero_le k) hk, e1, e2, elt.trans (eq_true c3), oob_nI (show k < 6 by omega) (show 6 ≤ 1000 by omega), clN (show k ≤ 100000 by omega), er, Option.bind_some, Option.toList_some, Option.toList_none, List.cons_append, List.nil_append, true_or, or_true, if_true, if_false, i10, i01, Bool.false_eq_true]
        · have eq1 : (vgo (qF (xs X)) (qn (xs X)) 0 (some a))[k]? = none := List.getElem?_eq_none (by omega)
          rw [eq1, en_none]
          simp only [s161_e, s161_0, s161_5, s161_11, s161_20, s161_23, s161_29, s161_34, s160_e, s160_0, s160_8, s160_14, s160_26, s160_27, m_isHouse_t (d := d + 10) m.1.1 h6 ha, m_in1 (L := 0) (H := 5) (lo := 0) (hi := 5) rfl rfl (by omega) (Nat.zero_le k) hk, e1, e2, elt.trans (eq_false c3), Option.bind_some, Option.toList_some, Option.toList_none, List.cons_append, List.nil_append, true_or, or_true, if_true, if_false, i10, i01, Bool.false_eq_true]
  · refine Step.rd hw hc hm hx (v := vI (-101)) (σ1 := σ) ?_ Ag.rf (fun m => ⟨σ, ?_, QF.of Ag.rf⟩)
    · simp only [s102_e, s102_0, s102_8, s102_11, c_isHouse_f (d := d + 11) hn h6 c, Option.bind_some, Option.toList_some, Option.toList_none, List.cons_append, List.nil_append, true_or, or_true, if_true, if_false, i10, i01, Bool.false_eq_true]
    · simp only [s161_e, s161_0, s161_5, s161_8, m_isHouse_f (d := d + 10) m.1.1 h6 c, Option.bind_some, Option.toList_some, Option.toList_none, List.cons_append, List.nil_append, true_or, or_true, if_true, if_false, i10, i01, Bool.false_eq_true]
end O2

/-! The reference: letters. -/
def MpAt (σ : St) (L : Nat) (p : Nat → Nat) : Prop := ar σ 7 0 1 = nI L ∧ L ≤ 38 ∧ ∀ j, j < L → ar σ 30 0 j = nI (p j) ∧ 1 ≤ p j ∧ p j < 127
theorem tIn {c k : Nat} (hc : c ≤ 1000) (hk : k ≤ 1000) : ((nI c).toInt = (k : Int)) = (c = k) := (tI (nI_toInt (by omega))).trans (eqN (by omega) (by omega))
theorem lt48N {c : Nat} (hc : c < 127) : (nI c < 48) = (c < 48) := by rw [show (48 : Int32) = nI 48 from rfl]; exact ltN (by omega) (by omega)
theorem lt57N {c : Nat} (hc : c < 127) : ((57 : Int32) < nI c) = (57 < c) := by rw [show (57 : Int32) = nI 57 from rfl]; exact ltN (by omega) (by omega)
section MP
variable {d : Nat} {σ : St} {L : Nat} {p : Nat → Nat}
theorem MpAt.qf {σ' : St} (h : MpAt σ L p) (g : QF σ σ') : MpAt σ' L p := ⟨by rw [g.2.1 1 (by omega) (by omega)]; exact h.1, h.2.1, fun j hj => by rw [g.1 30 0 (by unfold QM; omega)]; exact h.2.2 j hj⟩
theorem m_kindBy {c : Nat} (hc : c < 127) : call d 135 [vI (nI c)] σ = some (some (vI (en (kd c))), σ) := by
  have tk : ∀ k : Nat, k ≤ 1000 → ((nI c).toInt = (k : Int)) = (c = k) := fun k hk => tIn (by omega) hk
  have t102 : ((nI c).toInt = 102) = (c = 102) := tk 102 (by omega)
  have t104 : ((nI c).toInt = 104) = (c = 104) := tk 104 (by omega)
  have t109 : ((nI c).toInt = 109) = (c = 109) := tk 109 (by omega)
  have t115 : ((nI c).toInt = 115) = (c = 115) := tk 115 (by omega)
  have t116 : ((nI c).toInt = 116) = (c = 116) := tk 116 (by omega)
  have t103 : ((nI c).toInt = 103) = (c = 103) := tk 103 (by omega)
  have t105 : ((nI c).toInt = 105) = (c = 105) := tk 105 (by omega)
  have t106 : ((nI c).toInt = 106) = (c = 106) := tk 106 (by omega)
  have t107 : ((nI c).toInt = 107) = (c = 107) := tk 107 (by omega)
  have t108 : ((nI c).toInt = 108) = (c = 108) := tk 108 (by omega)
  have t110 : ((nI c).toInt = 110) = (c = 110) := tk 110 (by omega)
  have t111 : ((nI c).toInt = 111) = (c = 111) := tk 111 (by omega)
  have t112 : ((nI c).toInt = 112) = (c = 112) := tk 112 (by omega)
  have t113 : ((nI c).toInt = 113) = (c = 113) := tk 113 (by omega)
  have t114 : ((nI c).toInt = 114) = (c = 114) := tk 114 (by omega)
  unfold kd
  rw [s135_e, s135_0]
  simp only [t102, t103, t104, t105, t106, t107, t108, t109, t110, t111, t112, t113, t114, t115, t116, s135_76, s135_78, s135_80, s135_82, s135_84, s135_86]
  by_cases c1 : c = 104
  · rw [if_pos c1, if_neg (by omega), if_neg (by omega), if_pos c1]; rfl
  · rw [if_neg c1]
    by_cases c2 : c = 116
    · rw [if_pos c2]
      simp only [show ¬ c = 102 by omega, show ¬ c = 103 by omega, show ¬ c = 104 by omega, show ¬ c = 105 by omega, show ¬ c = 106 by omega, show ¬ c = 107 by omega, show ¬ c = 108 by omega, show ¬ c = 109 by omega, show ¬ c = 110 by omega, show ¬ c = 111 by omega, show ¬ c = 112 by omega, show ¬ c = 113 by omega, show ¬ c = 114 by omega, show ¬ c = 115 by omega, c2, if_true, if_false]
      rfl
    · rw [if_neg c2]
      by_cases c3 : c = 109
      · rw [if_pos c3]
        simp only [show ¬ c = 102 by omega, show ¬ c = 103 by omega, show ¬ c = 104 by omega, show ¬ c = 105 by omega, show ¬ c = 106 by omega, show ¬ c = 107 by omega, show ¬ c = 108 by omega, c3, if_true, if_false]
        rfl
      · rw [if_neg c3]
        by_cases c4 : c = 115
        · rw [if_pos c4]
          simp only [show ¬ c = 102 by omega, show ¬ c = 103 by omega, show ¬ c = 104 by omega, show ¬ c = 105 by omega, show ¬ c = 106 by omega, show ¬ c = 107 by omega, show ¬ c = 108 by omega, show ¬ c = 109 by omega, show ¬ c = 110 by omega, show ¬ c = 111 by omega, show ¬ c = 112 by omega, show ¬ c = 113 by omega, show ¬ c = 114 by omega, c4, if_true, if_false]
          rfl
        · rw [if_neg c4]
          by_cases c5 : c = 102
          · subst c5; rfl
          · rw [if_neg c5]
            simp only [c1, c2, c3, c4, c5, if_false, ite_self]
            rfl
theorem m_isHouseLetter {k : Nat} (h : MpAt σ L p) (hk : k < L) : call (d + 1) 136 [vR 7 0, vI (nI k)] σ = some (some (vI (if fitH p k = true then 1 else 0)), σ) := by
  have h38 := h.2.1
  obtain ⟨hp, -, hp2⟩ := h.2.2 k hk
  have i1 := oob_nI (show k < 38 by omega) (by decide)
  have j1 := clN (show k ≤ 100000 by omega)
  have t0 := toI0 (show k % 3 ≤ 1000 by omega)
  have t1 := toI1 (show k % 3 ≤ 1000 by omega)
  have m3 := modN (show k ≤ 1000 by omega)
  unfold fitH
  by_cases m0 : k % 3 = 0
  · rw [if_pos m0]
    have t0' := t0.trans (eq_true m0)
    cases hkd : kd (p k) with
    | none => simp only [s136_0, s136_6, s136_36, s136_40, s136_48, s136_49, s136_e, i1, j1, hp, m3, t0', m_kindBy hp2, hkd, en_none, Option.isSome_none, Option.bind_some, Option.toList_some, Option.toList_none, List.cons_append, List.nil_append, true_or, or_true, if_true, if_false, i10, i01, Bool.false_eq_true]
    | some v =>
      have hv := kd_lt hkd
      simp only [s136_0, s136_6, s136_36, s136_40, s136_44, s136_49, s136_e, i1, j1, hp, m3, t0', m_kindBy hp2, hkd, en_some, n1N (show v ≤ 100000 by omega), Option.isSome_some, Option.bind_some, Option.toList_some, Option.toList_none, List.cons_append, List.nil_append, true_or, or_true, if_true, if_false, i10, i01, Bool.false_eq_true]
  · rw [if_neg m0]
    have t0' := t0.trans (eq_false m0)
    by_cases m1 : k % 3 = 1
    · rw [if_pos m1]
      have t1' := t1.trans (eq_true m1)
      have ein := m_in (d := d) (σ := σ) (x := nI (p k)) (lo := 48) (hi := 57) (L := 48) (H := 57) rfl rfl
      unfold dg
      by_cases c : 48 ≤ p k ∧ p k ≤ 57
      · rw [if_neg (by rw [lt48N hp2, lt57N hp2]; omega)] at ein
        simp only [s136_0, s136_6, s136_50, s136_61, s136_e, i1, j1, hp, m3, t0', t1', ein, c, Option.isSome_some, and_self, Option.bind_some, Option.toList_some, Option.toList_none, List.cons_append, List.nil_append, true_or, or_true, if_true, if_false, i10, i01, Bool.false_eq_true]
      · rw [if_pos (by rw [lt48N hp2, lt57N hp2]; omega)] at ein
        rw [if_neg c]
        simp only [s136_0, s136_6, s136_50, s136_61, s136_e, i1, j1, hp, m3, t0', t1', ein, Option.isSome_none, Option.bind_some, Option.toList_some, Option.toList_none, List.cons_append, List.nil_append, true_or, or_true, if_true, if_false, i10, i01, Bool.false_eq_true]
    · rw [if_neg m1]
      have t1' := t1.trans (eq_false m1)
      have e44 : (nI (p k) = 44) = (p k = 44) := by rw [show (44 : Int32) = nI 44 from rfl]; exact eqN (by omega) (by omega)
      have e59 : (nI (p k) = 59) = (p k = 59) := by rw [show (59 : Int32) = nI 59 from rfl]; exact eqN (by omega) (by omega)
      have e17 : (nI k < 17) = (k < 17) := by rw [show (17 : Int32) = nI 17 from rfl]; exact ltN (by omega) (by omega)
      have e7 : ((7 : Int32) < nI k) = (7 < k) := by rw [show (7 : Int32) = nI 7 from rfl]; exact ltN (by omega) (by omega)
      have q17 : (k / 3 + 1 < 6) ↔ k < 17 := by omega
      have q7 : (3 ≤ k / 3 + 1) ↔ 7 < k := by omega
      simp only [s136_0, s136_6, s136_62, s136_68, s136_74, s136_80, s136_86, s136_90, s136_91, s136_e, i1, j1, hp, m3, t0', t1', e44, e59, e17, e7, decide_eq_true_eq, q17, q7, Option.bind_some, Option.toList_some, Option.toList_none, List.cons_append, List.nil_append, true_or, or_true, if_true, if_false, i10, i01, Bool.false_eq_true]
      by_cases c1 : p k = 44
      · have c2 : ¬ p k = 59 := by omega
        by_cases c3 : k < 17
        · simp only [c1, c2, c3, if_true, if_false, true_and, false_and, or_false, true_or]
        · simp only [c1, c2, c3, if_true, if_false, true_and, false_and, or_false, and_false, show ¬ (44 = 59) by omega]
      · by_cases c2 : p k = 59
        · by_cases c3 : 7 < k
          · simp only [c1, c2, c3, if_true, if_false, true_and, false_and, or_true, show ¬ (59 = 44) by omega, false_or]
          · simp only [c1, c2, c3, if_true, if_false, true_and, false_and, or_false, and_false, show ¬ (59 = 44) by omega]
        · simp only [c1, c2, if_true, if_false, true_and, false_and, or_false]
theorem m_inD {c e : Nat} {x4 : Int32} (hc : c < 127) (he : e ≤ 17) (hx : x4 = nI (e / 3 + 1)) : call d 131 [vL (nI c - 48).toInt64, vL 0, vL (x4 - 1).toInt64] σ = some (some (vI (if (match dg c with | some g => decide (g < e / 3 + 1) | none => false) = true then 1 else 0)), σ) := by
  have ein := m_in (d := d) (σ := σ) (x := nI c - 48) (lo := 0) (hi := x4 - 1) (L := 0) (H := (x4 - 1).toInt64) rfl rfl
  rw [ein]
  have e1 : x4 - 1 = nI (e / 3) := by rw [hx, show (1 : Int32) = nI 1 from rfl, pk_sub (by omega)]; rfl
  rw [e1]
  unfold dg
  by_cases c1 : c < 48
  · rw [if_pos (Or.inl (by rw [show (48 : Int32) = nI 48 from rfl]; exact pk_sneg (by omega) c1)), if_neg (show ¬ (48 ≤ c ∧ c ≤ 57) by omega)]
    rfl
  · have e2 : nI c - 48 = nI (c - 48) := by rw [show (48 : Int32) = nI 48 from rfl, pk_sub (by omega)]
    have p1 : (nI (c - 48) < 0 ∨ nI (e / 3) < nI (c - 48)) ↔ e / 3 < c - 48 := by
      rw [lt0N (show c - 48 ≤ 100000 by omega), ltN (show e / 3 ≤ 100000 by omega) (show c - 48 ≤ 100000 by omega), false_or]
    rw [e2]
    by_cases c2 : 48 ≤ c ∧ c ≤ 57
    · rw [if_pos c2]
      by_cases c3 : c - 48 < e / 3 + 1
      · rw [if_neg (fun z => by have := p1.mp z; omega), if_pos (decide_eq_true c3)]
      · rw [if_pos (p1.mpr (by omega)), if_neg (by rw [decide_eq_true_eq]; exact c3)]
    · rw [if_neg c2, if_pos (p1.mpr (by omega))]
      rfl
theorem m_isAngerLetter {k e : Nat} (h : MpAt σ L p) (hk : k < L) (he : e < k) (he3 : e % 3 = 2) (he17 : e ≤ 17) (h2 : ar σ 7 0 2 = nI e) : call (d + 1) 137 [vR 7 0, vI (nI k)] σ = some (some (vI (if fitA p e k = true then 1 else 0)), σ) := by
  have h38 := h.2.1
  obtain ⟨hp, -, hp2⟩ := h.2.2 k hk
  have i1 := oob_nI (show k < 38 by omega) (by decide)
  have j1 := clN (show k ≤ 100000 by omega)
  have e18 : (nI (k - e - 1) < 18) = (k - e - 1 < 18) := by rw [show (18 : Int32) = nI 18 from rfl, ltN (by omega) (by omega)]
  have e5 : (nI e + 1) / 3 = nI (e / 3 + 1) := by rw [add1N, divN (by omega)]; congr 1; omega
  have t0 := toI0 (show (k - e - 1) % 3 ≤ 1000 by omega)
  have t1 := toI1 (show (k - e - 1) % 3 ≤ 1000 by omega)
  have m3 := modN (show k - e - 1 ≤ 1000 by omega)
  have sb := sub2N he
  have inD := m_inD (d := d) (σ := σ) (c := p k) (e := e) (x4 := nI (e / 3 + 1)) hp2 he17 rfl
  by_cases c18 : 18 ≤ k - e - 1
  · have ef : fitA p e k = false := by
      cases hkd : dg (p k) with
      | none => exact fitA_n hkd
      | some g => rw [fitA_s hkd, if_pos c18]
    rw [ef]
    simp only [s137_0, s137_6, s137_32, s137_e, i1, j1, hp, h2, sb, e18, show ¬ k - e - 1 < 18 by omega, Option.bind_some, Option.toList_some, Option.toList_none, List.cons_append, List.nil_append, true_or, or_true, if_true, if_false, i10, i01, Bool.false_eq_true]
  · have c18' : k - e - 1 < 18 := by omega
    by_cases m0 : (k - e - 1) % 3 = 0
    · have t0' := t0.trans (eq_true m0)
      have ef : fitA p e k = (match dg (p k) with | some g => decide (g < e / 3 + 1) | none => false) := by
        cases hkd : dg (p k) with
        | none => exact fitA_n hkd
        | some g => rw [fitA_s hkd, if_neg c18, if_pos m0]
      rw [ef]
      obtain ⟨b, hb⟩ : ∃ b : Bool, (match dg (p k) with | some g => decide (g < e / 3 + 1) | none => false) = b := ⟨_, rfl⟩
      rw [hb] at inD ⊢
      simp only [s137_0, s137_6, s137_34, s137_64, s137_78, s137_e, i1, j1, hp, h2, sb, e18, c18', e5, m3, t0', inD, Option.bind_some, Option.toList_some, Option.toList_none, List.cons_append, List.nil_append, true_or, or_true, if_true, if_false, i10, i01, Bool.false_eq_true]
      cases b <;> rfl
    · have t0' := t0.trans (eq_false m0)
      by_cases m1 : (k - e - 1) % 3 = 1
      · have t1' := t1.trans (eq_true m1)
        have hk1 : nI k - 1 = nI (k - 1) := by rw [show (1 : Int32) = nI 1 from rfl, pk_sub (by omega)]
        obtain ⟨hpp, -, hpp2⟩ := h.2.2 (k - 1) (by omega)
        have i2 := oob_nI (show k - 1 < 38 by omega) (by decide)
        have j2 := clN (show k - 1 ≤ 100000 by omega)
        have ep : (nI (p k) = nI (p (k - 1))) = (p k = p (k - 1)) := eqN (by omega) (by omega)
        cases hkd : dg (p k) with
        | none =>
          rw [fitA_n hkd]
          rw [hkd] at inD
          simp only [s137_0, s137_6, s137_34, s137_79, s137_93, s137_112, s137_113, s137_e, i1, j1, hp, h2, sb, e18, c18', e5, m3, t0', t1', inD, Option.bind_some, Option.toList_some, Option.toList_none, List.cons_append, List.nil_append, true_or, or_true, if_true, if_false, i10, i01, Bool.false_eq_true]
        | some g =>
          rw [fitA_s hkd, if_neg c18, if_neg m0, if_pos m1]
          rw [hkd] at inD
          dsimp only at inD
          by_cases c1 : g < e / 3 + 1
          · rw [if_pos (decide_eq_true c1)] at inD
            by_cases c2 : p k = p (k - 1)
            · rw [if_neg (by rw [decide_eq_true_eq]; exact fun z => z.2 c2)]
              simp only [s137_0, s137_6, s137_34, s137_79, s137_93, s137_96, s137_105, s137_112, s137_113, s137_e, i1, j1, hp, h2, sb, e18, c18', e5, m3, t0', t1', inD, hk1, i2, j2, hpp, ep.trans (eq_true c2), Option.bind_some, Option.toList_some, Option.toList_none, List.cons_append, List.nil_append, true_or, or_true, if_true, if_false, i10, i01, Bool.false_eq_true]
            · rw [if_pos (decide_eq_true ⟨c1, c2⟩)]
              simp only [s137_0, s137_6, s137_34, s137_79, s137_93, s137_96, s137_105, s137_108, s137_113, s137_e, i1, j1, hp, h2, sb, e18, c18', e5, m3, t0', t1', inD, hk1, i2, j2, hpp, ep.trans (eq_false c2), Option.bind_some, Option.toList_some, Option.toList_none, List.cons_append, List.nil_append, true_or, or_true, if_true, if_false, i10, i01, Bool.false_eq_true]
          · rw [if_neg (by rw [decide_eq_true_eq]; exact c1)] at inD
            rw [if_neg (by rw [decide_eq_true_eq]; exact fun z => c1 z.1)]
            simp only [s137_0, s137_6, s137_34, s137_79, s137_93, s137_112, s137_113, s137_e, i1, j1, hp, h2, sb, e18, c18', e5, m3, t0', t1', inD, Option.bind_some, Option.toList_some, Option.toList_none, List.cons_append, List.nil_append, true_or, or_true, if_true, if_false, i10, i01, Bool.false_eq_true]
      · have t1' := t1.trans (eq_false m1)
        have ein := m_in (d := d) (σ := σ) (x := nI (p k)) (lo := 49) (hi := 57) (L := 49) (H := 57) rfl rfl
        have l49 : (nI (p k) < 49) = (p k < 49) := by rw [show (49 : Int32) = nI 49 from rfl]; exact ltN (by omega) (by omega)
        cases hkd : dg (p k) with
        | none =>
          rw [fitA_n hkd]
          have hno : ¬ (48 ≤ p k ∧ p k ≤ 57) := fun z => by unfold dg at hkd; rw [if_pos z] at hkd; cases hkd
          rw [if_pos (by rw [l49, lt57N hp2]; omega)] at ein
          simp only [s137_0, s137_6, s137_34, s137_114, s137_125, s137_e, i1, j1, hp, h2, sb, e18, c18', e5, m3, t0', t1', ein, Option.bind_some, Option.toList_some, Option.toList_none, List.cons_append, List.nil_append, true_or, or_true, if_true, if_false, i10, i01, Bool.false_eq_true]
        | some g =>
          obtain ⟨g1, g2⟩ := dg_lt hkd
          rw [fitA_s hkd, if_neg c18, if_neg m0, if_neg m1]
          by_cases c1 : 0 < g
          · rw [if_neg (by rw [l49, lt57N hp2]; omega)] at ein
            rw [if_pos (decide_eq_true c1)]
            simp only [s137_0, s137_6, s137_34, s137_114, s137_125, s137_e, i1, j1, hp, h2, sb, e18, c18', e5, m3, t0', t1', ein, Option.bind_some, Option.toList_some, Option.toList_none, List.cons_append, List.nil_append, true_or, or_true, if_true, if_false, i10, i01, Bool.false_eq_true]
          · rw [if_pos (by rw [l49, lt57N hp2]; omega)] at ein
            rw [if_neg (by rw [decide_eq_true_eq]; exact c1)]
            simp only [s137_0, s137_6, s137_34, s137_114, s137_125, s137_e, i1, j1, hp, h2, sb, e18, c18', e5, m3, t0', t1', ein, Option.bind_some, Option.toList_some, Option.toList_none, List.cons_append, List.nil_append, true_or, or_true, if_true, if_false, i10, i01, Bool.false_eq_true]
/-- where the houses of a page can end, as far as it fits -/
def eOk (e : Option Nat) (k : Nat) : Prop := match e with
  | none => k ≤ 17
  | some x => x < k ∧ x % 3 = 2 ∧ x ≤ 17
theorem fitH_59 {k : Nat} (h : fitH p k = true) (h9 : p k = 59) : k % 3 = 2 := by
  unfold fitH at h
  rw [h9] at h
  by_cases m0 : k % 3 = 0
  · rw [if_pos m0] at h; exact absurd h (by decide)
  · rw [if_neg m0] at h
    by_cases m1 : k % 3 = 1
    · rw [if_pos m1] at h; exact absurd h (by decide)
    · omega
theorem fitH_17 {k : Nat} (h : fitH p k = true) (h17 : k ≤ 17) (h9 : p k ≠ 59) : k + 1 ≤ 17 := by
  by_cases e : k = 17
  · subst e
    unfold fitH at h
    rw [if_neg (by omega), if_neg (by omega), decide_eq_true_eq] at h
    omega
  · omega
theorem eOk_step {e : Option Nat} {k : Nat} (h : eOk e k) (hf : fits p e k = true) : eOk (if p k = 59 then some k else e) (k + 1) := by
  cases e with
  | none =>
    have h17 : k ≤ 17 := h
    by_cases c : p k = 59
    · rw [if_pos c]
      exact ⟨by omega, fitH_59 hf c, h17⟩
    · rw [if_neg c]
      exact fitH_17 hf h17 c
  | some x =>
    have hx : x < k ∧ x % 3 = 2 ∧ x ≤ 17 := h
    rw [if_neg (fitA_ne hf)]
    exact ⟨by omega, hx.2⟩
theorem l_faultOf : ∀ m e k, k + m = L → eOk e k → ∀ σ : St, MpAt σ L p → ar σ 7 0 2 = en e → ∃ σ', exec (d + 2) 138 9 [vR 7 0, vI (nI k), vI 1] [] σ = some (some (vI (nI (flt p m e k).1)), σ') ∧ ar σ' 7 0 2 = en (flt p m e k).2 ∧ QF σ σ' := by
  intro m
  induction m with
  | zero =>
    intro e k hk he σ h h2
    have ek : k = L := by omega
    subst ek
    exact ⟨σ, by rw [s138_9, h.1, if_neg nlt, s138_85]; rfl, h2, QF.of Ag.rf⟩
  | succ m ih =>
    intro e k hk he σ h h2
    have h38 := h.2.1
    obtain ⟨hp, -, hp2⟩ := h.2.2 k (by omega)
    have i1 := oob_nI (show k < 38 by omega) (by decide)
    have j1 := clN (show k ≤ 100000 by omega)
    have e59 : (nI (p k) = 59) = (p k = 59) := by rw [show (59 : Int32) = nI 59 from rfl, eqN (by omega) (by omega)]
    have first : exec (d + 2) 138 21 [vR 7 0, vI (nI k), vI 1] [] σ = exec (d + 2) 138 42 [vR 7 0, vI (nI k), vI 1] [vI (if fits p e k = true then 1 else 0)] σ := by
      cases e with
      | none =>
        rw [s138_21, h2, en_none, if_pos rfl]
        simp only [s138_29, s138_34, m_isHouseLetter h (show k < L by omega), Option.bind_some, Option.toList_some, Option.toList_none, List.cons_append, List.nil_append, true_or, or_true, if_true, if_false, i10, i01, Bool.false_eq_true]
        rfl
      | some x =>
        have hx : x < k ∧ x % 3 = 2 ∧ x ≤ 17 := he
        rw [s138_21, h2, en_some, if_neg (fun z => (n1N (show x ≤ 100000 by omega)).mp z)]
        simp only [s138_37, m_isAngerLetter h (show k < L by omega) hx.1 hx.2.1 hx.2.2 h2, Option.bind_some, Option.toList_some, Option.toList_none, List.cons_append, List.nil_append, true_or, or_true, if_true, if_false, i10, i01, Bool.false_eq_true]
        rfl
    rw [s138_9, h.1, if_pos (ltn (show k < L by omega) (by omega)), s138_17, if_neg (show ¬ (1 : Int32) = 0 by decide), first, flt]
    cases hf : fits p e k with
    | false =>
      refine ⟨se σ 7 0 2 (ar σ 7 0 2), ?_, ?_, QF.se2⟩
      · have e1 : ar (se σ 7 0 2 (ar σ 7 0 2)) 7 0 1 = nI L := by rw [se_def, ar_sw_s, upd_n (by decide)]; exact h.1
        rw [if_neg Bool.false_ne_true, if_neg Bool.false_ne_true]
        simp only [s138_42, s138_63, s138_67, s138_79, s138_80, Option.bind_some, Option.toList_some, Option.toList_none, List.cons_append, List.nil_append, true_or, or_true, if_true, if_false, i10, i01, Bool.false_eq_true]
        rw [s138_9, e1, show nI k + 0 = nI k from Int32.add_zero _, if_pos (ltn (show k < L by omega) (by omega)), s138_17, if_pos rfl, s138_85]
      · rw [if_neg Bool.false_ne_true, se_def, ar_sw_s, upd_s]
        exact h2
    | true =>
      rw [if_pos rfl, if_pos rfl]
      have hs := eOk_step he hf
      obtain ⟨σ1, hσ1⟩ : ∃ y, y = se σ 7 0 2 (en (if p k = 59 then some k else e)) := ⟨_, rfl⟩
      have g1 : QF σ σ1 := by rw [hσ1]; exact QF.se2
      obtain ⟨σ2, e2, q2, g2⟩ := ih (if p k = 59 then some k else e) (k + 1) (by omega) hs σ1 (h.qf g1) (by rw [hσ1, se_def, ar_sw_s, upd_s])
      refine ⟨σ2, ?_, q2, g1.tr g2⟩
      by_cases c1 : p k = 59
      · rw [if_pos c1, en_some] at hσ1
        simp only [s138_42, s138_48, s138_54, s138_59, s138_67, s138_75, s138_80, i1, j1, hp, e59.trans (eq_true c1), ← hσ1, add1N, Option.bind_some, Option.toList_some, Option.toList_none, List.cons_append, List.nil_append, true_or, or_true, if_true, if_false, i10, i01, Bool.false_eq_true]
        exact e2
      · rw [if_neg c1, ← h2] at hσ1
        simp only [s138_42, s138_48, s138_54, s138_63, s138_67, s138_75, s138_80, i1, j1, hp, e59.trans (eq_false c1), ← hσ1, add1N, Option.bind_some, Option.toList_some, Option.toList_none, List.cons_append, List.nil_append, true_or, or_true, if_true, if_false, i10, i01, Bool.false_eq_true]
        exact e2
theorem m_faultOf (h : MpAt σ L p) : ∃ σ', call (d + 2) 138 [vR 7 0] σ = some (some (vI (nI (flt p L none 0).1)), σ') ∧ ar σ' 7 0 2 = en (flt p L none 0).2 ∧ QF σ σ' := by
  have g1 : QF σ (se σ 7 0 2 (-1)) := QF.se2
  obtain ⟨σ2, e2, q2, g2⟩ := l_faultOf (d := d) (p := p) L none 0 (by omega) (show (0 : Nat) ≤ 17 by omega) (se σ 7 0 2 (-1)) (h.qf g1) (by rw [se_def, ar_sw_s, upd_s]; rfl)
  exact ⟨σ2, by rw [s138_e, s138_0]; exact e2, q2, g1.tr g2⟩
end MP

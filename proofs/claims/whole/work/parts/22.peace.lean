/-! Peacemaker. -/
def pcA (p : Nat) (A : Nat → Int32) : Nat → Int32 := upd (upd A (6 * lop p + hip p) 0) (6 * hip p + lop p) 0
/-- two houses that are angry, one at least -/
def hasA (n : Nat) (A : Nat → Int32) (p : Nat) : Prop := hip p < n ∧ ¬ A (6 * lop p + hip p) + A (6 * hip p + lop p) = 0
noncomputable def Cm (n : Nat) (K W : Nat → Int32) (m B : Nat) (A : Nat → Int32) : Bool := allb (fun x => !B.testBit x || decide (pick n K W (morN n K W m A) x = none)) n
def crl (g : Nat → Option (List Nat)) : Nat → Nat → Option (List Nat)
  | 0, _ => none
  | f + 1, p => match g p with
    | some l => some (p :: l)
    | none => crl g f (p + 1)
noncomputable def csr (n : Nat) (K W : Nat → Int32) (m B : Nat) : Nat → Nat → (Nat → Int32) → Option (List Nat)
  | 0, _, A => if Cm n K W m B A = true then some [] else none
  | r + 1, fr, A => crl (fun p => @ite _ (hasA n A p) (Classical.propDecidable _) (csr n K W m B r (p + 1) (pcA p A)) none) (15 - fr) fr
section PM
variable {d : Nat} {σ : St} {n : Nat} {K W A : Nat → Int32}
theorem c_behind {D : Nat} (hD : D ≤ 3) : call d 40 [vR 3 0, vI (nI D)] σ = some (some (vR 5 (3 + D)), σ) := by
  have h : D = 0 ∨ D = 1 ∨ D = 2 ∨ D = 3 := by omega
  have t0 := toI0 (show D ≤ 1000 by omega)
  have t1 := toI1 (show D ≤ 1000 by omega)
  have t2 := toI2 (show D ≤ 1000 by omega)
  rcases h with rfl | rfl | rfl | rfl
  · simp only [s40_e, s40_0, s40_28, s40_33, s40_38, s40_43, t0.trans (eq_true rfl), Option.bind_some, Option.toList_some, Option.toList_none, List.cons_append, List.nil_append, true_or, or_true, if_true, if_false, i10, i01, Bool.false_eq_true]
  · simp only [s40_e, s40_0, s40_28, s40_33, s40_38, s40_43, t0.trans (eq_false (by omega)), t1.trans (eq_true rfl), Option.bind_some, Option.toList_some, Option.toList_none, List.cons_append, List.nil_append, true_or, or_true, if_true, if_false, i10, i01, Bool.false_eq_true]
  · simp only [s40_e, s40_0, s40_28, s40_33, s40_38, s40_43, t0.trans (eq_false (by omega)), t1.trans (eq_false (by omega)), t2.trans (eq_true rfl), Option.bind_some, Option.toList_some, Option.toList_none, List.cons_append, List.nil_append, true_or, or_true, if_true, if_false, i10, i01, Bool.false_eq_true]
  · simp only [s40_e, s40_0, s40_28, s40_33, s40_38, s40_43, t0.trans (eq_false (by omega)), t1.trans (eq_false (by omega)), t2.trans (eq_false (by omega)), Option.bind_some, Option.toList_some, Option.toList_none, List.cons_append, List.nil_append, true_or, or_true, if_true, if_false, i10, i01, Bool.false_eq_true]
theorem c_makesPeace_n {q q' : Nat} (hq : q' ≠ q) (h : Lv σ q n K W A) : ∃ σ', call (d + 1) 39 [vR 5 q, vR 5 q', vI (-1)] σ = some (some (vI 1), σ') ∧ Lv σ' q' n K W A ∧ Ag (SB q') σ σ' := by
  obtain ⟨σ1, e1, L1, g1⟩ := c_copyLv (d := d) (σ := σ) hq h
  refine ⟨σ1, ?_, L1, g1⟩
  simp only [s39_e, s39_0, s39_4, s39_10, s39_15, s39_17, s39_22, s39_28, s39_37, s39_40, s39_47, s39_54, s39_58, s39_60, s39_65, s39_72, show ((-1 : Int32) < 0) = True by decide, e1, Option.bind_some, Option.toList_some, Option.toList_none, List.cons_append, List.nil_append, true_or, or_true, if_true, if_false, i10, i01, Bool.false_eq_true]
theorem c_makesPeace_t {q q' p : Nat} (h6 : n ≤ 6) (hp : p < 15) (hq : q' ≠ q) (h : Lv σ q n K W A) (ha : hasA n A p) : ∃ σ', call (d + 3) 39 [vR 5 q, vR 5 q', vI (nI p)] σ = some (some (vI 1), σ') ∧ Lv σ' q' n K W (pcA p A) ∧ Ag (SB q') σ σ' := by
  obtain ⟨hlh, hh6⟩ := lop_lt p hp
  obtain ⟨h1, h2⟩ := ha
  have e15 : nI p < 15 := by rw [show (15 : Int32) = nI 15 from rfl]; exact ltn (by omega) (by omega)
  have ht := c_areTwo_t (d := d + 1) h.1 h6 (show lop p < n by omega) h1 (show lop p ≠ hip p by omega)
  have a1 := c_angerAt (d := d + 1) (σ := σ) (q := q) (show lop p < 6 by omega) hh6
  have a2 := c_angerAt (d := d + 1) (σ := σ) (q := q) hh6 (show lop p < 6 by omega)
  rw [h.2.2.2.1] at a1 a2
  obtain ⟨σ1, e1, L1, g1⟩ := c_copyLv (d := d + 2) (σ := σ) hq h
  obtain ⟨σ2, e2, L2, g2⟩ := c_reconcile (d := d) h6 (show lop p < n by omega) h1 L1
  refine ⟨σ2, ?_, L2, g1.tr g2.SA_SB⟩
  simp only [s39_e, s39_0, s39_4, s39_10, s39_15, s39_17, s39_22, s39_28, s39_37, s39_40, s39_47, s39_54, s39_58, s39_60, s39_65, s39_72, lt0N (show p ≤ 100000 by omega), e15, oob_nI hp (by decide), clN (show p ≤ 100000 by omega), ro60 p hp, ro61 p hp, ht, a1, a2, h2, e1, e2, Option.bind_some, Option.toList_some, Option.toList_none, List.cons_append, List.nil_append, true_or, or_true, if_true, if_false, i10, i01, Bool.false_eq_true]
theorem c_makesPeace_f {q q' p : Nat} (h6 : n ≤ 6) (hp : p < 15) (h : Lv σ q n K W A) (ha : ¬ hasA n A p) : call (d + 3) 39 [vR 5 q, vR 5 q', vI (nI p)] σ = some (some (vI 0), σ) := by
  obtain ⟨hlh, hh6⟩ := lop_lt p hp
  have e15 : nI p < 15 := by rw [show (15 : Int32) = nI 15 from rfl]; exact ltn (by omega) (by omega)
  by_cases h1 : hip p < n
  · have h2 : A (6 * lop p + hip p) + A (6 * hip p + lop p) = 0 := Classical.byContradiction fun z => ha ⟨h1, z⟩
    have ht := c_areTwo_t (d := d + 1) h.1 h6 (show lop p < n by omega) h1 (show lop p ≠ hip p by omega)
    have a1 := c_angerAt (d := d + 1) (σ := σ) (q := q) (show lop p < 6 by omega) hh6
    have a2 := c_angerAt (d := d + 1) (σ := σ) (q := q) hh6 (show lop p < 6 by omega)
    rw [h.2.2.2.1] at a1 a2
    simp only [s39_e, s39_0, s39_4, s39_10, s39_15, s39_17, s39_22, s39_28, s39_37, s39_40, s39_47, s39_54, s39_58, s39_60, s39_65, s39_72, lt0N (show p ≤ 100000 by omega), e15, oob_nI hp (by decide), clN (show p ≤ 100000 by omega), ro60 p hp, ro61 p hp, ht, a1, a2, h2, Option.bind_some, Option.toList_some, Option.toList_none, List.cons_append, List.nil_append, true_or, or_true, if_true, if_false, i10, i01, Bool.false_eq_true]
  · have ht := c_areTwo_f (d := d + 1) (x := nI (lop p)) (y := nI (hip p)) h.1 h6 (by
      rintro ⟨a, b, ha, hb, hab, h1, h2⟩
      rw [eqN (by omega) (by omega)] at h2
      omega)
    simp only [s39_e, s39_0, s39_4, s39_10, s39_15, s39_17, s39_22, s39_28, s39_37, s39_40, s39_47, s39_54, s39_58, s39_60, s39_65, s39_72, lt0N (show p ≤ 100000 by omega), e15, oob_nI hp (by decide), clN (show p ≤ 100000 by omega), ro60 p hp, ro61 p hp, ht, Option.bind_some, Option.toList_some, Option.toList_none, List.cons_append, List.nil_append, true_or, or_true, if_true, if_false, i10, i01, Bool.false_eq_true]
theorem c_isCalm {q m B : Nat} {A' : Nat → Int32} (h6 : n ≤ 6) (hB : B < 64) (h7 : ar σ 3 0 7 = nI B) (h : Lv σ q n K W (morN n K W m A')) : call (d + 1) 35 [vR 3 0, vR 5 q] σ = some (some (vI (if Cm n K W m B A' = true then 1 else 0)), σ) := by
  rw [s35_e, s35_0]
  unfold Cm
  have key : ∀ f b, b + f = n → allb (fun x => !B.testBit x || decide (pick n K W (morN n K W m A') x = none)) b = true → exec (d + 1) 35 2 [vR 3 0, vR 5 q, vI (nI b)] [] σ = some (some (vI (if allb (fun x => !B.testBit x || decide (pick n K W (morN n K W m A') x = none)) n = true then 1 else 0)), σ) := by
    intro f
    induction f with
    | zero =>
      intro b hb hal
      have e : b = n := by omega
      subst e
      rw [s35_2]
      simp only [s35_7, s35_39, c_size, h.1, if_neg nlt, hal, Option.bind_some, Option.toList_some, Option.toList_none, List.cons_append, List.nil_append, true_or, or_true, if_true, if_false, i10, i01, Bool.false_eq_true]
    | succ f ih =>
      intro b hb hal
      have hf := h.2.2.2.2 b (by omega)
      have lt1 := ltn (show b < n by omega) (show n ≤ 100000 by omega)
      have e1 := en_m1 (o := pick n K W (morN n K W m A') b) (fun c hc => by have := pick_lt hc; omega)
      cases c1 : B.testBit b with
      | false =>
        have := ih (b + 1) (by omega) (by rw [allb, hal, c1]; rfl)
        rw [s35_2]
        simp only [s35_7, s35_10, s35_33, c_size, h.1, if_pos lt1, h7, bits_at B hB b (show b < 6 by omega), c1, Option.bind_some, Option.toList_some, Option.toList_none, List.cons_append, List.nil_append, true_or, or_true, if_true, if_false, i10, i01, Bool.false_eq_true, add1N]
        exact this
      | true =>
        by_cases c2 : pick n K W (morN n K W m A') b = none
        · have := ih (b + 1) (by omega) (by rw [allb, hal, c1, decide_eq_true c2]; rfl)
          rw [s35_2]
          simp only [s35_7, s35_10, s35_22, s35_27, s35_33, c_size, c_frontOf (show b < 6 by omega), hf, h.1, if_pos lt1, h7, bits_at B hB b (show b < 6 by omega), c1, e1.trans (eq_true c2), Option.bind_some, Option.toList_some, Option.toList_none, List.cons_append, List.nil_append, true_or, or_true, if_true, if_false, i10, i01, Bool.false_eq_true, add1N]
          exact this
        · have hno : ¬ allb (fun x => !B.testBit x || decide (pick n K W (morN n K W m A') x = none)) n = true := fun z => by
            have := (allb_t.mp z) b (by omega)
            rw [c1, decide_eq_false c2] at this
            cases this
          rw [if_neg hno, s35_2]
          simp only [s35_7, s35_10, s35_22, s35_27, s35_31, c_size, c_frontOf (show b < 6 by omega), hf, h.1, if_pos lt1, h7, bits_at B hB b (show b < 6 by omega), c1, e1.trans (eq_false c2), Option.bind_some, Option.toList_some, Option.toList_none, List.cons_append, List.nil_append, true_or, or_true, if_true, if_false, i10, i01, Bool.false_eq_true]
  exact key n 0 (by omega) rfl
def CF (D : Nat) : Nat → Nat → Prop := fun t q => (t = 21 ∧ q = 0) ∨ ((t = 5 ∨ (11 ≤ t ∧ t ≤ 17)) ∧ 3 + D ≤ q)
theorem CF.mono {D D' : Nat} {σ σ' : St} (h : D ≤ D') (g : Ag (CF D') σ σ') : Ag (CF D) σ σ' := Ag.mono g (fun t q z => by unfold CF at z ⊢; omega)
theorem CF.scr {D : Nat} {σ σ' : St} (g : Ag (CF D) σ σ') : Ag Scr σ σ' := Ag.mono g (fun t q z => by unfold CF at z; unfold Scr; omega)
theorem c_calms {m B : Nat} (h6 : n ≤ 6) (hm : m ≤ 1000) (hB : B < 64) : ∀ r D, D + r ≤ 3 → ∀ (fr : Nat) (A : Nat → Int32) (σ : St), fr ≤ 15 → Lv σ (3 + D) n K W A → ar σ 3 0 7 = nI B → ar σ 3 0 8 = nI m →
    ∃ σ', call (d + 4 + r) 34 [vR 3 0, vI (nI (D + r)), vI (nI D), vI (nI fr)] σ = some (some (vI (if (csr n K W m B r fr A).isSome = true then 1 else 0)), σ') ∧ Ag (CF D) σ σ' ∧ (∀ j, j < 3 → (j < D ∨ D + r ≤ j) → ar σ' 21 0 j = ar σ 21 0 j) ∧ (∀ l, csr n K W m B r fr A = some l → l.length = r ∧ (∀ p ∈ l, p < 15) ∧ ∀ i, i < r → ar σ' 21 0 (D + i) = en (l[i]?)) := by
  intro r
  induction r with
  | zero =>
    intro D hD fr A σ hfr h h7 h8
    obtain ⟨σ1, e1, L1, g1⟩ := c_letPass (d := d) h6 m hm σ A h
    have n3 : ¬ SA (3 + D) 3 0 := by unfold SA; omega
    have h7' : ar σ1 3 0 7 = nI B := by rw [g1.1 _ _ n3]; exact h7
    have e2 := c_isCalm (d := d + 2) (A' := A) h6 hB h7' L1
    have g : Ag (CF D) σ σ1 := g1.mono (fun t q z => by unfold SA at z; unfold CF; omega)
    refine ⟨σ1, ?_, g, fun j hj _ => by rw [g1.1 _ _ (by unfold SA; omega)], ?_⟩
    · rw [csr]
      cases c : Cm n K W m B A with
      | true =>
        rw [c] at e2
        simp only [s34_0, s34_5, s34_17, s34_26, s34_32, s34_e, c_behind (show D ≤ 3 by omega), if_neg (nlt (n := D + 0)), Nat.add_zero, if_neg nlt, h8, e1, e2, Option.bind_some, Option.toList_some, Option.toList_none, List.cons_append, List.nil_append, true_or, or_true, if_true, if_false, i10, i01, Bool.false_eq_true, Option.isSome_some]
      | false =>
        rw [c] at e2
        simp only [s34_0, s34_5, s34_17, s34_26, s34_32, s34_e, c_behind (show D ≤ 3 by omega), if_neg (nlt (n := D + 0)), Nat.add_zero, if_neg nlt, h8, e1, e2, Option.bind_some, Option.toList_some, Option.toList_none, List.cons_append, List.nil_append, true_or, or_true, if_true, if_false, i10, i01, Bool.false_eq_true, Option.isSome_none]
    · intro l hl
      rw [csr] at hl
      split at hl
      · cases hl; exact ⟨rfl, fun p hp => (by cases hp), fun i hi => (by omega)⟩
      · cases hl
  | succ r ih =>
    intro D hD fr A σ hfr h h7 h8
    have loop : ∀ f p, p + f = 15 → ∀ σ : St, Lv σ (3 + D) n K W A → ar σ 3 0 7 = nI B → ar σ 3 0 8 = nI m →
        ∃ σ', exec (d + 4 + (r + 1)) 34 45 [vR 3 0, vI (nI (D + (r + 1))), vI (nI D), vI (nI fr), vR 5 (3 + D), vR 5 (3 + (D + 1)), vI (nI p)] [] σ = some (some (vI (if (crl (fun p => @ite _ (hasA n A p) (Classical.propDecidable _) (csr n K W m B r (p + 1) (pcA p A)) none) f p).isSome = true then 1 else 0)), σ') ∧ Ag (CF D) σ σ' ∧ (∀ j, j < 3 → (j < D ∨ D + (r + 1) ≤ j) → ar σ' 21 0 j = ar σ 21 0 j) ∧ (∀ l, crl (fun p => @ite _ (hasA n A p) (Classical.propDecidable _) (csr n K W m B r (p + 1) (pcA p A)) none) f p = some l → l.length = r + 1 ∧ (∀ p ∈ l, p < 15) ∧ ∀ i, i < r + 1 → ar σ' 21 0 (D + i) = en (l[i]?)) := by
      intro f
      induction f with
      | zero =>
        intro p hp σ h h7 h8
        have e : p = 15 := by omega
        subst e
        refine ⟨σ, by rw [s34_45, show (15 : Int32) = nI 15 from rfl, if_neg nlt, s34_95]; rfl, Ag.rf, fun _ _ _ => rfl, fun l hl => by cases hl⟩
      | succ f ihf =>
        intro p hp σ h h7 h8
        have lt15 : nI p < 15 := by rw [show (15 : Int32) = nI 15 from rfl]; exact ltn (by omega) (by omega)
        by_cases c1 : hasA n A p
        · obtain ⟨σ1, e1, L1, g1⟩ := c_makesPeace_t (d := d + 1 + r) (q' := 3 + (D + 1)) h6 (show p < 15 by omega) (show 3 + (D + 1) ≠ 3 + D by omega) h c1
          obtain ⟨σ2, hσ2⟩ : ∃ x, x = se σ1 21 0 D (nI p) := ⟨_, rfl⟩
          have g2 : Ag (CF D) σ σ2 := by
            rw [hσ2]
            exact (g1.mono (fun t q z => by unfold SB at z; unfold CF; omega)).tr (Ag.sw (Or.inl ⟨rfl, rfl⟩))
          have g2b : Ag (fun t q => t = 21 ∨ SB (3 + (D + 1)) t q) σ σ2 := by
            rw [hσ2]
            exact (g1.mono (fun t q z => Or.inr z)).tr (Ag.sw (Or.inl rfl))
          have L2 : Lv σ2 (3 + (D + 1)) n K W (pcA p A) := by rw [hσ2]; exact L1.ag (S := fun t _ => t = 21) (Ag.sw rfl) (fun t ht (z : t = 21) => by omega)
          have n3 : ¬ CF D 3 0 := by unfold CF; omega
          have h7' : ar σ2 3 0 7 = nI B := by rw [g2.1 _ _ n3]; exact h7
          have h8' : ar σ2 3 0 8 = nI m := by rw [g2.1 _ _ n3]; exact h8
          obtain ⟨σ3, e3, g3, t3, l3⟩ := ih (D + 1) (by omega) (p + 1) (pcA p A) σ2 (by omega) L2 h7' h8'
          rw [show D + 1 + r = D + (r + 1) by omega] at e3 t3
          have t2 : ∀ j, j < 3 → j ≠ D → ar σ2 21 0 j = ar σ 21 0 j := fun j hj hne => by
            rw [hσ2, se_def, ar_sw_s, upd_n hne, g1.1 _ _ (by unfold SB; omega)]
          have tD : ar σ2 21 0 D = nI p := by rw [hσ2, se_def, ar_sw_s, upd_s]
          have oD : oob (nI D) 3 = false := oob_nI (by omega) (by decide)
          have g13 : Ag (CF D) σ σ3 := g2.tr (CF.mono (by omega) g3)
          have dd : d + 4 + (r + 1) = d + 4 + r + 1 := by omega
          cases c2 : csr n K W m B r (p + 1) (pcA p A) with
          | some l =>
            have hcr : crl (fun p => @ite _ (hasA n A p) (Classical.propDecidable _) (csr n K W m B r (p + 1) (pcA p A)) none) (f + 1) p = some (p :: l) := by
              rw [crl, if_pos c1, c2]
            obtain ⟨q1, q2, q3⟩ := l3 l c2
            rw [c2] at e3
            rw [hcr]
            refine ⟨σ3, ?_, g13, ?_, ?_⟩
            · rw [dd, s34_45, if_pos lt15]
              rw [hσ2] at e3
              simp only [s34_52, s34_61, s34_64, s34_72, s34_84, s34_87, show d + 4 + r = d + 1 + r + 3 by omega, e1, oD, clN (show D ≤ 100000 by omega), Option.bind_some, Option.toList_some, Option.toList_none, List.cons_append, List.nil_append, true_or, or_true, if_true, if_false, i10, i01, Bool.false_eq_true, add1N, Option.isSome_some] at e3 ⊢
              rw [e3]
              simp only [s34_84, s34_87, Option.bind_some, Option.toList_some, Option.toList_none, List.cons_append, List.nil_append, true_or, or_true, if_true, if_false, i10, i01, Bool.false_eq_true]
            · intro j hj hjj
              rw [t3 j hj (by omega), t2 j hj (by omega)]
            · intro l' hl'
              cases hl'
              refine ⟨by rw [List.length_cons, q1], fun p' hp' => ?_, fun i hi => ?_⟩
              · rcases List.mem_cons.mp hp' with rfl | h
                · omega
                · exact q2 _ h
              · cases i with
                | zero =>
                  rw [Nat.add_zero, t3 D (by omega) (by omega), tD]
                  rfl
                | succ i =>
                  have := q3 i (by omega)
                  rw [show D + (i + 1) = D + 1 + i by omega, this]
                  rfl
          | none =>
            have hcr : crl (fun p => @ite _ (hasA n A p) (Classical.propDecidable _) (csr n K W m B r (p + 1) (pcA p A)) none) (f + 1) p = crl (fun p => @ite _ (hasA n A p) (Classical.propDecidable _) (csr n K W m B r (p + 1) (pcA p A)) none) f (p + 1) := by
              rw [crl, if_pos c1, c2]
            rw [c2] at e3
            rw [hcr]
            have L3 : Lv σ3 (3 + D) n K W A := (h.ag g2b (fun t ht z => by unfold SB at z; omega)).ag g3 (fun t ht z => by unfold CF at z; omega)
            obtain ⟨σ4, e4, g4, t4, l4⟩ := ihf (p + 1) (by omega) σ3 L3 (by rw [g13.1 _ _ n3]; exact h7) (by rw [g13.1 _ _ n3]; exact h8)
            refine ⟨σ4, ?_, g13.tr g4, ?_, l4⟩
            · rw [dd] at e4 ⊢
              rw [s34_45, if_pos lt15]
              rw [hσ2] at e3
              simp only [s34_52, s34_61, s34_64, s34_72, show d + 4 + r = d + 1 + r + 3 by omega, e1, oD, clN (show D ≤ 100000 by omega), Option.bind_some, Option.toList_some, Option.toList_none, List.cons_append, List.nil_append, true_or, or_true, if_true, if_false, i10, i01, Bool.false_eq_true, add1N, Option.isSome_none] at e3 ⊢
              rw [e3]
              simp only [s34_84, s34_89, add1N, Option.bind_some, Option.toList_some, Option.toList_none, List.cons_append, List.nil_append, true_or, or_true, if_true, if_false, i10, i01, Bool.false_eq_true]
              simp only [show d + 4 + r = d + 1 + r + 3 by omega] at e4
              exact e4
            · intro j hj hjj
              rw [t4 j hj hjj, t3 j hj (by omega), t2 j hj (by omega)]
        · have hcr : crl (fun p => @ite _ (hasA n A p) (Classical.propDecidable _) (csr n K W m B r (p + 1) (pcA p A)) none) (f + 1) p = crl (fun p => @ite _ (hasA n A p) (Classical.propDecidable _) (csr n K W m B r (p + 1) (pcA p A)) none) f (p + 1) := by
            rw [crl, if_neg c1]
          rw [hcr]
          obtain ⟨σ4, e4, g4, t4, l4⟩ := ihf (p + 1) (by omega) σ h h7 h8
          refine ⟨σ4, ?_, g4, t4, l4⟩
          have e1 := c_makesPeace_f (d := d + 1 + r) (σ := σ) (q := 3 + D) (q' := 3 + (D + 1)) h6 (show p < 15 by omega) h c1
          have dd : d + 4 + (r + 1) = d + 4 + r + 1 := by omega
          rw [dd] at e4 ⊢
          rw [s34_45, if_pos lt15]
          simp only [s34_52, s34_61, s34_89, show d + 4 + r = d + 1 + r + 3 by omega, e1, Option.bind_some, Option.toList_some, Option.toList_none, List.cons_append, List.nil_append, true_or, or_true, if_true, if_false, i10, i01, Bool.false_eq_true, add1N] at e4 ⊢
          exact e4
    obtain ⟨σ', e, g, t, l⟩ := loop (15 - fr) fr (by omega) σ h h7 h8
    refine ⟨σ', ?_, g, t, l⟩
    have dd : d + 4 + (r + 1) = d + 4 + r + 1 := by omega
    have lt3 : nI D < 3 := by rw [show (3 : Int32) = nI 3 from rfl]; exact ltn (by omega) (by omega)
    rw [csr]
    rw [dd] at e ⊢
    rw [s34_e, s34_0]
    simp only [s34_5, s34_12, s34_33, s34_40, c_behind (show D ≤ 3 by omega), c_behind (show D + 1 ≤ 3 by omega), if_pos (ltn (show D < D + (r + 1) by omega) (by omega)), lt3, add1N, Option.bind_some, Option.toList_some, Option.toList_none, List.cons_append, List.nil_append, true_or, or_true, if_true, if_false, i10, i01, Bool.false_eq_true]
    exact e
end PM

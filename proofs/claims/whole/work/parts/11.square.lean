/-! Square: reads. -/
section SQ
variable {d : Nat} {σ : St} {q n : Nat}
theorem c_cell {a b : Int32} : call d 94 [vI a, vI b] σ = some (some (vI (a * 6 + b)), σ) := by
  simp only [s94_e, s94_0]
theorem c_bounded {x : Int32} : call d 93 [vI x] σ = some (some (vI (bd x)), σ) := by
  simp only [s93_e, s93_0, bd]
theorem c_stands : call d 50 [vR 5 q] σ = some (some (vI (if 0 < ar σ 5 q 7 then 1 else 0)), σ) := by
  simp only [s50_e, s50_0, s50_7, s50_11, s50_12, Option.bind_some, Option.toList_some, Option.toList_none, List.cons_append, List.nil_append, true_or, or_true, if_true, if_false, i10, i01, Bool.false_eq_true]
  split <;> rfl
theorem c_size : call d 51 [vR 5 q] σ = some (some (vI (ar σ 5 q 7)), σ) := by
  simp only [s51_e, s51_0]
/-- a house of n -/
def isH (n : Nat) (x : Int32) : Prop := ∃ a, a < n ∧ x = nI a
theorem isH_iff {n : Nat} (hn : n ≤ 6) {x : Int32} : isH n x ↔ ¬ x < 0 ∧ x < nI n := by
  constructor
  · rintro ⟨a, ha, rfl⟩
    exact ⟨nI_pos (by omega), nI_lt ha (by omega)⟩
  · rintro ⟨h1, h2⟩
    obtain ⟨j, hj, rfl⟩ := nI_of h1
    exact ⟨j, (nI_ltI hj (by omega)).mp h2, rfl⟩
theorem c_isHouse_t {a : Nat} (hn : ar σ 5 q 7 = nI n) (h6 : n ≤ 6) (ha : a < n) : call d 52 [vR 5 q, vI (nI a)] σ = some (some (vI 1), σ) := by
  have h1 : ¬ nI a < 0 := nI_pos (by omega)
  have h2 : nI a < nI n := nI_lt ha (by omega)
  simp only [s52_e, s52_0, s52_4, s52_12, s52_16, s52_17, Option.bind_some, Option.toList_some, Option.toList_none, List.cons_append, List.nil_append, true_or, or_true, if_true, if_false, i10, i01, Bool.false_eq_true, hn, h1, h2]
theorem c_isHouse_f {x : Int32} (hn : ar σ 5 q 7 = nI n) (h6 : n ≤ 6) (h : ¬ isH n x) : call d 52 [vR 5 q, vI x] σ = some (some (vI 0), σ) := by
  rw [isH_iff h6] at h
  simp only [s52_e, s52_0, s52_4, s52_12, s52_16, s52_17, Option.bind_some, Option.toList_some, Option.toList_none, List.cons_append, List.nil_append, true_or, or_true, if_true, if_false, i10, i01, Bool.false_eq_true, hn]
  by_cases h1 : x < 0
  · rw [if_pos h1]
  · rw [if_neg h1, if_neg (fun z => h ⟨h1, z⟩)]
theorem not_isH_m1 {n : Nat} (h6 : n ≤ 6) : ¬ isH n (-1) := by
  rw [isH_iff h6]
  exact fun z => z.1 (by decide)
theorem c_isHouse_e {o : Option Nat} (hn : ar σ 5 q 7 = nI n) (h6 : n ≤ 6) (ho : ∀ b, o = some b → b < n) : call d 52 [vR 5 q, vI (en o)] σ = some (some (vI (if o = none then 0 else 1)), σ) := by
  cases o with
  | none => exact c_isHouse_f hn h6 (not_isH_m1 h6)
  | some b => exact c_isHouse_t hn h6 (ho b rfl)
/-- two houses of n, not the same -/
def isT (n : Nat) (x y : Int32) : Prop := ∃ a b, a < n ∧ b < n ∧ a ≠ b ∧ x = nI a ∧ y = nI b
theorem c_areTwo_t {a b : Nat} (hn : ar σ 5 q 7 = nI n) (h6 : n ≤ 6) (ha : a < n) (hb : b < n) (hab : a ≠ b) : call (d + 1) 53 [vR 5 q, vI (nI a), vI (nI b)] σ = some (some (vI 1), σ) := by
  have e : ¬ nI a = nI b := fun z => hab ((nI_eq (by omega) (by omega)).mp z)
  simp only [s53_e, s53_0, s53_5, s53_8, s53_13, s53_16, s53_21, s53_25, s53_26, Option.bind_some, Option.toList_some, Option.toList_none, List.cons_append, List.nil_append, true_or, or_true, if_true, if_false, i10, i01, Bool.false_eq_true, c_isHouse_t hn h6 ha, c_isHouse_t hn h6 hb, e]
theorem c_areTwo_f {x y : Int32} (hn : ar σ 5 q 7 = nI n) (h6 : n ≤ 6) (h : ¬ isT n x y) : call (d + 1) 53 [vR 5 q, vI x, vI y] σ = some (some (vI 0), σ) := by
  by_cases hx : isH n x
  · obtain ⟨a, ha, rfl⟩ := hx
    by_cases hy : isH n y
    · obtain ⟨b, hb, rfl⟩ := hy
      have hab : a = b := Classical.byContradiction fun z => h ⟨a, b, ha, hb, z, rfl, rfl⟩
      subst hab
      simp only [s53_e, s53_0, s53_5, s53_8, s53_13, s53_16, s53_21, s53_25, s53_26, c_isHouse_t hn h6 ha, Option.bind_some, Option.toList_some, Option.toList_none, List.cons_append, List.nil_append, true_or, or_true, if_true, if_false, i10, i01, Bool.false_eq_true]
    · simp only [s53_e, s53_0, s53_5, s53_8, s53_13, s53_16, s53_21, s53_25, s53_26, c_isHouse_t hn h6 ha, c_isHouse_f hn h6 hy, Option.bind_some, Option.toList_some, Option.toList_none, List.cons_append, List.nil_append, true_or, or_true, if_true, if_false, i10, i01, Bool.false_eq_true]
  · simp only [s53_e, s53_0, s53_5, s53_8, s53_13, s53_16, s53_21, s53_25, s53_26, c_isHouse_f hn h6 hx, Option.bind_some, Option.toList_some, Option.toList_none, List.cons_append, List.nil_append, true_or, or_true, if_true, if_false, i10, i01, Bool.false_eq_true]
theorem cl6 {a : Nat} (ha : a < 6) : (nI a).toNatClampNeg = a := nI_clamp (by omega)
theorem c_kindOf {a : Nat} (ha : a < 6) : call d 54 [vR 5 q, vI (nI a)] σ = some (some (vI (ar σ 11 q a)), σ) := by
  simp only [s54_e, s54_0, s54_6, oob_nI ha (by decide), cl6 ha, Option.bind_some, Option.toList_some, Option.toList_none, List.cons_append, List.nil_append, true_or, or_true, if_true, if_false, i10, i01, Bool.false_eq_true]
theorem c_viewOf {a : Nat} (ha : a < 6) : call d 55 [vR 5 q, vI (nI a)] σ = some (some (vI (ar σ 12 q a)), σ) := by
  simp only [s55_e, s55_0, s55_6, oob_nI ha (by decide), cl6 ha, Option.bind_some, Option.toList_some, Option.toList_none, List.cons_append, List.nil_append, true_or, or_true, if_true, if_false, i10, i01, Bool.false_eq_true]
theorem c_frontOf {a : Nat} (ha : a < 6) : call d 56 [vR 5 q, vI (nI a)] σ = some (some (vI (ar σ 13 q a)), σ) := by
  simp only [s56_e, s56_0, s56_6, oob_nI ha (by decide), cl6 ha, Option.bind_some, Option.toList_some, Option.toList_none, List.cons_append, List.nil_append, true_or, or_true, if_true, if_false, i10, i01, Bool.false_eq_true]
theorem c_tornOf {a : Nat} (ha : a < 6) : call d 57 [vR 5 q, vI (nI a)] σ = some (some (vI (ar σ 14 q a)), σ) := by
  simp only [s57_e, s57_0, s57_6, oob_nI ha (by decide), cl6 ha, Option.bind_some, Option.toList_some, Option.toList_none, List.cons_append, List.nil_append, true_or, or_true, if_true, if_false, i10, i01, Bool.false_eq_true]
theorem c_costOf {a : Nat} (ha : a < 6) : call d 58 [vR 5 q, vI (nI a)] σ = some (some (vI (ar σ 15 q a)), σ) := by
  simp only [s58_e, s58_0, s58_6, oob_nI ha (by decide), cl6 ha, Option.bind_some, Option.toList_some, Option.toList_none, List.cons_append, List.nil_append, true_or, or_true, if_true, if_false, i10, i01, Bool.false_eq_true]
theorem c_angerAt {a b : Nat} (ha : a < 6) (hb : b < 6) : call (d + 1) 66 [vR 5 q, vI (nI a), vI (nI b)] σ = some (some (vI (ar σ 16 q (6 * a + b))), σ) := by
  have i1 : oob (nI (6 * a + b)) 36 = false := oob_nI (by omega) (by omega)
  have j1 : (nI (6 * a + b)).toNatClampNeg = 6 * a + b := clN (by omega)
  simp only [s66_e, s66_0, s66_9, s66_10, c_cell, mul6N, addN, i1, j1, Option.bind_some, Option.toList_some, Option.toList_none, List.cons_append, List.nil_append, true_or, or_true, if_true, if_false, i10, i01, Bool.false_eq_true]
theorem c_wallBetween {a b : Nat} (ha : a < 6) (hb : b < 6) : call (d + 1) 67 [vR 5 q, vI (nI a), vI (nI b)] σ = some (some (vI (ar σ 17 q (6 * a + b))), σ) := by
  have i1 : oob (nI (6 * a + b)) 36 = false := oob_nI (by omega) (by omega)
  have j1 : (nI (6 * a + b)).toNatClampNeg = 6 * a + b := clN (by omega)
  simp only [s67_e, s67_0, s67_9, s67_10, c_cell, mul6N, addN, i1, j1, Option.bind_some, Option.toList_some, Option.toList_none, List.cons_append, List.nil_append, true_or, or_true, if_true, if_false, i10, i01, Bool.false_eq_true]
/-! pickFront -/
theorem l_pickFront {a : Nat} (hn : ar σ 5 q 7 = nI n) (h6 : n ≤ 6) (ha : a < 6) : ∀ (m b : Nat) (v6 v7 : IV), b + m = n →
    exec d 91 13 [vR 5 q, vI (nI a), vI (nI (6 * a)), vI (en (pkf (ar σ 11 q) (ar σ 17 q) (ar σ 16 q) a b)), vI (av (ar σ 16 q) a (pkf (ar σ 11 q) (ar σ 17 q) (ar σ 16 q) a b)), vI (nI b), v6, v7] [] σ = some (some (vI (en (pick n (ar σ 11 q) (ar σ 17 q) (ar σ 16 q) a))), σ) := by
  intro m
  induction m with
  | zero =>
    intro b v6 v7 hb
    have e : b = n := by omega
    subst e
    have e1 : ¬ nI b < nI b := fun z => Int32.lt_irrefl z
    rw [s91_13, hn, if_neg e1, s91_112]
    rfl
  | succ m ih =>
    intro b v6 v7 hb
    have e1 : nI b < nI n := nI_lt (by omega) (by omega)
    have i1 : oob (nI (6 * a + b)) 36 = false := oob_nI (by omega) (by omega)
    have j1 : (nI (6 * a + b)).toNatClampNeg = 6 * a + b := clN (by omega)
    have ih' := fun v6 v7 => ih (b + 1) v6 v7 (by omega)
    have hlt := fun c h => (pkf_lt (K := ar σ 11 q) (W := ar σ 17 q) (A := ar σ 16 q) (a := a) (b := b) (c := c) h).1
    rw [s91_13, hn, if_pos e1]
    by_cases c1 : 0 < ar σ 16 q (6 * a + b)
    · by_cases c2 : ar σ 17 q (6 * a + b) = 0
      · by_cases c4 : ar σ 11 q a = 3
        · cases hp : pkf (ar σ 11 q) (ar σ 17 q) (ar σ 16 q) a b with
          | none =>
            have hk := pkf_t c1 c2 (show bet _ _ _ _ (pkf (ar σ 11 q) (ar σ 17 q) (ar σ 16 q) a b) by rw [hp]; trivial)
            rw [hk] at ih'
            have c5 : ¬ ar σ 16 q (6 * a + b) < 0 := fun z => Int32.lt_irrefl (Int32.lt_trans c1 z)
            simp only [s91_0, s91_22, s91_31, s91_39, s91_43, s91_50, s91_54, s91_58, s91_65, s91_69, s91_70, s91_77, s91_86, s91_89, s91_94, s91_99, s91_106, s91_112, addN, i1, j1, oob_nI ha (by decide : 6 ≤ 1000), cl6 ha, c1, c2, c4, en_none, av, c5, add1N, Option.bind_some, Option.toList_some, Option.toList_none, List.cons_append, List.nil_append, true_or, or_true, if_true, if_false, i10, i01, Bool.false_eq_true]
            exact ih' _ _
          | some c =>
            have hcb := hlt c hp
            have c6 : ¬ nI c = -1 := fun z => by have := n1N (a := c) (by omega); rw [z] at this; exact this ▸ rfl
            by_cases c5 : ar σ 16 q (6 * a + b) < ar σ 16 q (6 * a + c)
            · have hk := pkf_t c1 c2 (show bet _ _ _ _ (pkf (ar σ 11 q) (ar σ 17 q) (ar σ 16 q) a b) by rw [hp]; simp only [bet, if_pos c4]; exact c5)
              rw [hk] at ih'
              simp only [s91_0, s91_22, s91_31, s91_39, s91_43, s91_50, s91_54, s91_58, s91_65, s91_69, s91_70, s91_77, s91_86, s91_89, s91_94, s91_99, s91_106, s91_112, addN, i1, j1, oob_nI ha (by decide : 6 ≤ 1000), cl6 ha, c1, c2, c4, en_some, av, c5, c6, add1N, Option.bind_some, Option.toList_some, Option.toList_none, List.cons_append, List.nil_append, true_or, or_true, if_true, if_false, i10, i01, Bool.false_eq_true]
              exact ih' _ _
            · have hk := pkf_f (K := ar σ 11 q) (W := ar σ 17 q) (A := ar σ 16 q) (a := a) (b := b) (fun z => c5 (by have := z.2.2; rw [hp] at this; simpa only [bet, if_pos c4] using this))
              rw [hk, hp] at ih'
              simp only [s91_0, s91_22, s91_31, s91_39, s91_43, s91_50, s91_54, s91_58, s91_65, s91_69, s91_70, s91_77, s91_86, s91_89, s91_94, s91_99, s91_106, s91_112, addN, i1, j1, oob_nI ha (by decide : 6 ≤ 1000), cl6 ha, c1, c2, c4, en_some, av, c5, c6, add1N, Option.bind_some, Option.toList_some, Option.toList_none, List.cons_append, List.nil_append, true_or, or_true, if_true, if_false, i10, i01, Bool.false_eq_true]
              exact ih' _ _
        · cases hp : pkf (ar σ 11 q) (ar σ 17 q) (ar σ 16 q) a b with
          | none =>
            have hk := pkf_t c1 c2 (show bet _ _ _ _ (pkf (ar σ 11 q) (ar σ 17 q) (ar σ 16 q) a b) by rw [hp]; trivial)
            rw [hk] at ih'
            simp only [s91_0, s91_22, s91_31, s91_39, s91_43, s91_50, s91_54, s91_58, s91_65, s91_69, s91_70, s91_77, s91_86, s91_89, s91_94, s91_99, s91_106, s91_112, addN, i1, j1, oob_nI ha (by decide : 6 ≤ 1000), cl6 ha, c1, c2, c4, en_none, av, add1N, Option.bind_some, Option.toList_some, Option.toList_none, List.cons_append, List.nil_append, true_or, or_true, if_true, if_false, i10, i01, Bool.false_eq_true]
            exact ih' _ _
          | some c =>
            have hcb := hlt c hp
            have c6 : ¬ nI c = -1 := fun z => by have := n1N (a := c) (by omega); rw [z] at this; exact this ▸ rfl
            by_cases c5 : ar σ 16 q (6 * a + c) < ar σ 16 q (6 * a + b)
            · have hk := pkf_t c1 c2 (show bet _ _ _ _ (pkf (ar σ 11 q) (ar σ 17 q) (ar σ 16 q) a b) by rw [hp]; simp only [bet, if_neg c4]; exact c5)
              rw [hk] at ih'
              simp only [s91_0, s91_22, s91_31, s91_39, s91_43, s91_50, s91_54, s91_58, s91_65, s91_69, s91_70, s91_77, s91_86, s91_89, s91_94, s91_99, s91_106, s91_112, addN, i1, j1, oob_nI ha (by decide : 6 ≤ 1000), cl6 ha, c1, c2, c4, en_some, av, c5, c6, add1N, Option.bind_some, Option.toList_some, Option.toList_none, List.cons_append, List.nil_append, true_or, or_true, if_true, if_false, i10, i01, Bool.false_eq_true]
              exact ih' _ _
            · have hk := pkf_f (K := ar σ 11 q) (W := ar σ 17 q) (A := ar σ 16 q) (a := a) (b := b) (fun z => c5 (by have := z.2.2; rw [hp] at this; simpa only [bet, if_neg c4] using this))
              rw [hk, hp] at ih'
              simp only [s91_0, s91_22, s91_31, s91_39, s91_43, s91_50, s91_54, s91_58, s91_65, s91_69, s91_70, s91_77, s91_86, s91_89, s91_94, s91_99, s91_106, s91_112, addN, i1, j1, oob_nI ha (by decide : 6 ≤ 1000), cl6 ha, c1, c2, c4, en_some, av, c5, c6, add1N, Option.bind_some, Option.toList_some, Option.toList_none, List.cons_append, List.nil_append, true_or, or_true, if_true, if_false, i10, i01, Bool.false_eq_true]
              exact ih' _ _
      · have hk := pkf_f (K := ar σ 11 q) (W := ar σ 17 q) (A := ar σ 16 q) (a := a) (b := b) (fun z => c2 z.2.1)
        rw [hk] at ih'
        by_cases c4 : ar σ 11 q a = 3
        · by_cases c5 : ar σ 16 q (6 * a + b) < av (ar σ 16 q) a (pkf (ar σ 11 q) (ar σ 17 q) (ar σ 16 q) a b)
          · simp only [s91_0, s91_22, s91_31, s91_39, s91_43, s91_50, s91_54, s91_58, s91_65, s91_69, s91_70, s91_77, s91_86, s91_89, s91_94, s91_99, s91_106, s91_112, addN, i1, j1, oob_nI ha (by decide : 6 ≤ 1000), cl6 ha, c1, c2, c4, c5, add1N, Option.bind_some, Option.toList_some, Option.toList_none, List.cons_append, List.nil_append, true_or, or_true, if_true, if_false, i10, i01, Bool.false_eq_true]
            exact ih' _ _
          · simp only [s91_0, s91_22, s91_31, s91_39, s91_43, s91_50, s91_54, s91_58, s91_65, s91_69, s91_70, s91_77, s91_86, s91_89, s91_94, s91_99, s91_106, s91_112, addN, i1, j1, oob_nI ha (by decide : 6 ≤ 1000), cl6 ha, c1, c2, c4, c5, add1N, Option.bind_some, Option.toList_some, Option.toList_none, List.cons_append, List.nil_append, true_or, or_true, if_true, if_false, i10, i01, Bool.false_eq_true]
            exact ih' _ _
        · by_cases c5 : av (ar σ 16 q) a (pkf (ar σ 11 q) (ar σ 17 q) (ar σ 16 q) a b) < ar σ 16 q (6 * a + b)
          · simp only [s91_0, s91_22, s91_31, s91_39, s91_43, s91_50, s91_54, s91_58, s91_65, s91_69, s91_70, s91_77, s91_86, s91_89, s91_94, s91_99, s91_106, s91_112, addN, i1, j1, oob_nI ha (by decide : 6 ≤ 1000), cl6 ha, c1, c2, c4, c5, add1N, Option.bind_some, Option.toList_some, Option.toList_none, List.cons_append, List.nil_append, true_or, or_true, if_true, if_false, i10, i01, Bool.false_eq_true]
            exact ih' _ _
          · simp only [s91_0, s91_22, s91_31, s91_39, s91_43, s91_50, s91_54, s91_58, s91_65, s91_69, s91_70, s91_77, s91_86, s91_89, s91_94, s91_99, s91_106, s91_112, addN, i1, j1, oob_nI ha (by decide : 6 ≤ 1000), cl6 ha, c1, c2, c4, c5, add1N, Option.bind_some, Option.toList_some, Option.toList_none, List.cons_append, List.nil_append, true_or, or_true, if_true, if_false, i10, i01, Bool.false_eq_true]
            exact ih' _ _
    · have hk := pkf_f (K := ar σ 11 q) (W := ar σ 17 q) (A := ar σ 16 q) (a := a) (b := b) (fun z => c1 z.1)
      rw [hk] at ih'
      by_cases c4 : ar σ 11 q a = 3
      · by_cases c5 : ar σ 16 q (6 * a + b) < av (ar σ 16 q) a (pkf (ar σ 11 q) (ar σ 17 q) (ar σ 16 q) a b)
        · simp only [s91_0, s91_22, s91_31, s91_39, s91_43, s91_50, s91_54, s91_58, s91_65, s91_69, s91_70, s91_77, s91_86, s91_89, s91_94, s91_99, s91_106, s91_112, addN, i1, j1, oob_nI ha (by decide : 6 ≤ 1000), cl6 ha, c1, c4, c5, add1N, Option.bind_some, Option.toList_some, Option.toList_none, List.cons_append, List.nil_append, true_or, or_true, if_true, if_false, i10, i01, Bool.false_eq_true]
          exact ih' _ _
        · simp only [s91_0, s91_22, s91_31, s91_39, s91_43, s91_50, s91_54, s91_58, s91_65, s91_69, s91_70, s91_77, s91_86, s91_89, s91_94, s91_99, s91_106, s91_112, addN, i1, j1, oob_nI ha (by decide : 6 ≤ 1000), cl6 ha, c1, c4, c5, add1N, Option.bind_some, Option.toList_some, Option.toList_none, List.cons_append, List.nil_append, true_or, or_true, if_true, if_false, i10, i01, Bool.false_eq_true]
          exact ih' _ _
      · by_cases c5 : av (ar σ 16 q) a (pkf (ar σ 11 q) (ar σ 17 q) (ar σ 16 q) a b) < ar σ 16 q (6 * a + b)
        · simp only [s91_0, s91_22, s91_31, s91_39, s91_43, s91_50, s91_54, s91_58, s91_65, s91_69, s91_70, s91_77, s91_86, s91_89, s91_94, s91_99, s91_106, s91_112, addN, i1, j1, oob_nI ha (by decide : 6 ≤ 1000), cl6 ha, c1, c4, c5, add1N, Option.bind_some, Option.toList_some, Option.toList_none, List.cons_append, List.nil_append, true_or, or_true, if_true, if_false, i10, i01, Bool.false_eq_true]
          exact ih' _ _
        · simp only [s91_0, s91_22, s91_31, s91_39, s91_43, s91_50, s91_54, s91_58, s91_65, s91_69, s91_70, s91_77, s91_86, s91_89, s91_94, s91_99, s91_106, s91_112, addN, i1, j1, oob_nI ha (by decide : 6 ≤ 1000), cl6 ha, c1, c4, c5, add1N, Option.bind_some, Option.toList_some, Option.toList_none, List.cons_append, List.nil_append, true_or, or_true, if_true, if_false, i10, i01, Bool.false_eq_true]
          exact ih' _ _
theorem c_pickFront {a : Nat} (hn : ar σ 5 q 7 = nI n) (h6 : n ≤ 6) (ha : a < 6) : call d 91 [vR 5 q, vI (nI a)] σ = some (some (vI (en (pick n (ar σ 11 q) (ar σ 17 q) (ar σ 16 q) a))), σ) := by
  rw [s91_e, s91_0, mul6N]
  exact l_pickFront hn h6 ha n 0 vN vN (by omega)
end SQ

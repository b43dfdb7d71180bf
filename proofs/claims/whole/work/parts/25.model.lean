/-! The reference: reads. -/
theorem i64_lt {x y : Int32} : (x.toInt64 < y.toInt64) = (x < y) := by
  apply propext
  rw [Int64.lt_iff_toInt_lt, Int32.toInt_toInt64, Int32.toInt_toInt64, Int32.lt_iff_toInt_lt]
/-- the reference's houses, kinds and walls -/
def Mn (σ : St) (n : Nat) (K W : Nat → Int32) : Prop := ar σ 7 0 3 = nI n ∧ ar σ 31 0 = K ∧ ar σ 36 0 = W
def Fc (σ : St) (n : Nat) (F : Nat → Option Nat) : Prop := ∀ a, a < n → ar σ 37 0 a = en (F a)
theorem Mn.ag {S : Nat → Nat → Prop} {σ σ' : St} {n : Nat} {K W : Nat → Int32} (h : Mn σ n K W) (hg : Ag S σ σ') (h7 : ¬ S 7 0) (h31 : ¬ S 31 0) (h36 : ¬ S 36 0) : Mn σ' n K W := ⟨by rw [hg.1 _ _ h7]; exact h.1, by rw [hg.1 _ _ h31]; exact h.2.1, by rw [hg.1 _ _ h36]; exact h.2.2⟩
theorem Fc.ag {S : Nat → Nat → Prop} {σ σ' : St} {n : Nat} {F : Nat → Option Nat} (h : Fc σ n F) (hg : Ag S σ σ') (h37 : ¬ S 37 0) : Fc σ' n F := fun a ha => by rw [hg.1 _ _ h37]; exact h a ha
section MD
variable {d : Nat} {σ : St} {n : Nat} {K W A : Nat → Int32} {F : Nat → Option Nat}
theorem m_in {x lo hi : Int32} {L H : Int64} (hL : L = lo.toInt64) (hH : H = hi.toInt64) : call d 131 [vL x.toInt64, vL L, vL H] σ = some (some (vI (if x < lo ∨ hi < x then 0 else 1)), σ) := by
  subst hL
  subst hH
  have e1 : (lg_cmp x.toInt64 lo.toInt64 < 0) = (x < lo) := (propext (lg_cmp_lt _ _)).trans i64_lt
  have e2 : (0 < lg_cmp x.toInt64 hi.toInt64) = (hi < x) := (propext (lg_cmp_gt _ _)).trans i64_lt
  by_cases c1 : x < lo
  · rw [if_pos (Or.inl c1)]
    simp only [s131_e, s131_0, s131_6, s131_13, s131_17, s131_18, e1, c1, Option.bind_some, Option.toList_some, Option.toList_none, List.cons_append, List.nil_append, true_or, or_true, if_true, if_false, i10, i01, Bool.false_eq_true]
  · by_cases c2 : hi < x
    · rw [if_pos (Or.inr c2)]
      simp only [s131_e, s131_0, s131_6, s131_13, s131_17, s131_18, e1, c1, e2, c2, Option.bind_some, Option.toList_some, Option.toList_none, List.cons_append, List.nil_append, true_or, or_true, if_true, if_false, i10, i01, Bool.false_eq_true]
    · rw [if_neg (fun z => z.elim c1 c2)]
      simp only [s131_e, s131_0, s131_6, s131_13, s131_17, s131_18, e1, c1, e2, c2, Option.bind_some, Option.toList_some, Option.toList_none, List.cons_append, List.nil_append, true_or, or_true, if_true, if_false, i10, i01, Bool.false_eq_true]
theorem m_isHouse {x : Int32} (hn : ar σ 7 0 3 = nI n) (h6 : n ≤ 6) : call (d + 1) 143 [vR 7 0, vI x] σ = some (some (vI (if x < 0 ∨ nI n - 1 < x then 0 else 1)), σ) := by
  have e1 : (0 : Int64) = (0 : Int32).toInt64 := by decide
  by_cases c : x < 0 ∨ nI n - 1 < x
  · simp only [s143_e, s143_0, s143_13, hn, m_in e1 rfl, if_pos c, Option.bind_some, Option.toList_some, Option.toList_none, List.cons_append, List.nil_append, true_or, or_true, if_true, if_false, i10, i01, Bool.false_eq_true]
  · simp only [s143_e, s143_0, s143_13, hn, m_in e1 rfl, if_neg c, Option.bind_some, Option.toList_some, Option.toList_none, List.cons_append, List.nil_append, true_or, or_true, if_true, if_false, i10, i01, Bool.false_eq_true]
theorem isH_m {x : Int32} (h6 : n ≤ 6) : (x < 0 ∨ nI n - 1 < x) ↔ ¬ isH n x := by
  rw [isH_iff h6]
  have hlt : ∀ n, n ≤ 6 → (nI n - 1).toInt = (n : Int) - 1 := by decide
  have h1 := hlt n h6
  have h2 : (nI n).toInt = (n : Int) := nI_toInt (by omega)
  rw [Int32.lt_iff_toInt_lt, Int32.lt_iff_toInt_lt, Int32.lt_iff_toInt_lt, h1, h2]
  omega
theorem m_isHouse_t {a : Nat} (hn : ar σ 7 0 3 = nI n) (h6 : n ≤ 6) (ha : a < n) : call (d + 1) 143 [vR 7 0, vI (nI a)] σ = some (some (vI 1), σ) := by
  rw [m_isHouse hn h6, if_neg (fun z => (isH_m h6).mp z ⟨a, ha, rfl⟩)]
theorem m_isHouse_f {x : Int32} (hn : ar σ 7 0 3 = nI n) (h6 : n ≤ 6) (h : ¬ isH n x) : call (d + 1) 143 [vR 7 0, vI x] σ = some (some (vI 0), σ) := by
  rw [m_isHouse hn h6, if_pos ((isH_m h6).mpr h)]
theorem m_areTwo_t {a b : Nat} (hn : ar σ 7 0 3 = nI n) (h6 : n ≤ 6) (ha : a < n) (hb : b < n) (hab : a ≠ b) : call (d + 2) 144 [vR 7 0, vI (nI a), vI (nI b)] σ = some (some (vI 1), σ) := by
  have e : ¬ nI a = nI b := fun z => hab ((nI_eq (by omega) (by omega)).mp z)
  simp only [s144_e, s144_0, s144_5, s144_8, s144_13, s144_16, s144_21, s144_25, s144_26, Option.bind_some, Option.toList_some, Option.toList_none, List.cons_append, List.nil_append, true_or, or_true, if_true, if_false, i10, i01, Bool.false_eq_true, m_isHouse_t hn h6 ha, m_isHouse_t hn h6 hb, e]
theorem m_areTwo_f {x y : Int32} (hn : ar σ 7 0 3 = nI n) (h6 : n ≤ 6) (h : ¬ isT n x y) : call (d + 2) 144 [vR 7 0, vI x, vI y] σ = some (some (vI 0), σ) := by
  by_cases hx : isH n x
  · obtain ⟨a, ha, rfl⟩ := hx
    by_cases hy : isH n y
    · obtain ⟨b, hb, rfl⟩ := hy
      have hab : a = b := Classical.byContradiction fun z => h ⟨a, b, ha, hb, z, rfl, rfl⟩
      subst hab
      simp only [s144_e, s144_0, s144_5, s144_8, s144_13, s144_16, s144_21, s144_25, s144_26, m_isHouse_t hn h6 ha, Option.bind_some, Option.toList_some, Option.toList_none, List.cons_append, List.nil_append, true_or, or_true, if_true, if_false, i10, i01, Bool.false_eq_true]
    · simp only [s144_e, s144_0, s144_5, s144_8, s144_13, s144_16, s144_21, s144_25, s144_26, m_isHouse_t hn h6 ha, m_isHouse_f hn h6 hy, Option.bind_some, Option.toList_some, Option.toList_none, List.cons_append, List.nil_append, true_or, or_true, if_true, if_false, i10, i01, Bool.false_eq_true]
  · simp only [s144_e, s144_0, s144_5, s144_8, s144_13, s144_16, s144_21, s144_25, s144_26, m_isHouse_f hn h6 hx, Option.bind_some, Option.toList_some, Option.toList_none, List.cons_append, List.nil_append, true_or, or_true, if_true, if_false, i10, i01, Bool.false_eq_true]
theorem m_topped {x : Int32} : call d 140 [vI x] σ = some (some (vI (bd x)), σ) := by
  have e : bd x = if x < 0 then 0 else if 20 < x then 20 else x := by
    have c0 : (0 : Int32).toInt = 0 := by decide
    have c20 : (20 : Int32).toInt = 20 := by decide
    unfold bd
    by_cases h1 : x < 20
    · simp only [if_pos h1]
      by_cases h2 : x < 0
      · rw [if_pos h2, if_neg (fun z => by rw [Int32.lt_iff_toInt_lt] at *; omega)]
      · rw [if_neg h2]
        have h20 : ¬ 20 < x := fun z => by rw [Int32.lt_iff_toInt_lt] at *; omega
        rw [if_neg h20]
        by_cases h3 : 0 < x
        · rw [if_pos h3]
        · rw [if_neg h3]
          apply Int32.toInt_inj.mp
          rw [Int32.lt_iff_toInt_lt] at *
          omega
    · simp only [if_neg h1]
      have h2 : ¬ x < 0 := fun z => by rw [Int32.lt_iff_toInt_lt] at *; omega
      rw [if_neg h2, if_pos (by decide)]
      by_cases h3 : 20 < x
      · rw [if_pos h3]
      · rw [if_neg h3]
        apply Int32.toInt_inj.mp
        rw [Int32.lt_iff_toInt_lt] at *
        omega
  rw [e]
  by_cases h1 : x < 0
  · simp only [s140_e, s140_0, s140_4, s140_8, s140_14, s140_19, s140_20, h1, Option.bind_some, Option.toList_some, Option.toList_none, List.cons_append, List.nil_append, true_or, or_true, if_true, if_false, i10, i01, Bool.false_eq_true]
  · by_cases h2 : 20 < x
    · simp only [s140_e, s140_0, s140_4, s140_8, s140_14, s140_19, s140_20, h1, h2, Option.bind_some, Option.toList_some, Option.toList_none, List.cons_append, List.nil_append, true_or, or_true, if_true, if_false, i10, i01, Bool.false_eq_true]
    · simp only [s140_e, s140_0, s140_4, s140_8, s140_14, s140_19, s140_20, h1, h2, Option.bind_some, Option.toList_some, Option.toList_none, List.cons_append, List.nil_append, true_or, or_true, if_true, if_false, i10, i01, Bool.false_eq_true]
theorem m_lacks (hn : ar σ 7 0 3 = nI n) (h6 : n ≤ 6) : call d 142 [vR 7 0] σ = some (some (vI (if n = 0 then 1 else 0)), σ) := by
  have e1 : (nI n = 0) = (n = 0) := by rw [show (0 : Int32) = nI 0 from rfl, eqN (by omega) (by omega)]
  by_cases c : n = 0
  · rw [if_pos c]
    simp only [s142_e, s142_0, s142_7, s142_11, s142_12, hn, e1.trans (eq_true c), Option.bind_some, Option.toList_some, Option.toList_none, List.cons_append, List.nil_append, true_or, or_true, if_true, if_false, i10, i01, Bool.false_eq_true]
  · rw [if_neg c]
    simp only [s142_e, s142_0, s142_7, s142_11, s142_12, hn, e1.trans (eq_false c), Option.bind_some, Option.toList_some, Option.toList_none, List.cons_append, List.nil_append, true_or, or_true, if_true, if_false, i10, i01, Bool.false_eq_true]
def W01 (W : Nat → Int32) : Prop := ∀ j, j < 36 → W j = 0 ∨ W j = 1
theorem l145_70 {t q : Nat} {x2 x3 x4 x5 x6 y0 : Int32} {v7 : IV} : exec d 145 70 [vR 7 0, vR t q, vI x2, vI x3, vI x4, vI x5, vI x6, v7] [vI y0] σ = exec d 145 101 [vR 7 0, vR t q, vI x2, vI x3, vI x4, vI x5, vI x6, v7] [vI (if (y0 = 3 ∧ x5 < x6) ∨ (¬ y0 = 3 ∧ x6 < x5) then 1 else 0)] σ := by
  by_cases h1 : y0 = 3
  · by_cases h2 : x5 < x6
    · simp only [s145_70, s145_74, s145_81, h1, h2, Option.bind_some, Option.toList_some, Option.toList_none, List.cons_append, List.nil_append, true_or, or_true, if_true, if_false, i10, i01, Bool.false_eq_true, and_self, true_and]
    · simp only [s145_70, s145_74, s145_85, h1, h2, Option.bind_some, Option.toList_some, Option.toList_none, List.cons_append, List.nil_append, true_or, or_true, if_true, if_false, i10, i01, Bool.false_eq_true, and_false, not_true_eq_false, false_and, or_self]
  · by_cases h2 : x6 < x5
    · simp only [s145_70, s145_89, s145_96, h1, h2, Option.bind_some, Option.toList_some, Option.toList_none, List.cons_append, List.nil_append, true_or, or_true, if_true, if_false, i10, i01, Bool.false_eq_true, not_false_eq_true, and_self]
    · simp only [s145_70, s145_89, s145_100, h1, h2, Option.bind_some, Option.toList_some, Option.toList_none, List.cons_append, List.nil_append, true_or, or_true, if_true, if_false, i10, i01, Bool.false_eq_true, and_false, false_and, or_self]
theorem l_facesIn {t q a : Nat} (ht : t < 60) (h36 : lenT t = 36) (h6 : n ≤ 6) (hW1 : W01 W) (ha : a < 6) (h : Mn σ n K W) : ∀ m b (v5 v6 v7 : IV), b + m = n → exec d 145 5 [vR 7 0, vR t q, vI (nI a), vI (en (pkf K W (ar σ t q) a b)), vI (nI b), v5, v6, v7] [] σ = some (some (vI (en (pick n K W (ar σ t q) a))), σ) := by
  obtain ⟨hn, hK, hW⟩ := h
  intro m
  induction m with
  | zero =>
    intro b v5 v6 v7 hb
    have e : b = n := by omega
    subst e
    rw [s145_5, hn, if_neg nlt, s145_131]
    rfl
  | succ m ih =>
    intro b v5 v6 v7 hb
    have i1 : oob (nI (6 * a + b)) 36 = false := oob_nI (by omega) (by omega)
    have j1 : (nI (6 * a + b)).toNatClampNeg = 6 * a + b := clN (by omega)
    have hlt := fun c h => (pkf_lt (K := K) (W := W) (A := ar σ t q) (a := a) (b := b) (c := c) h).1
    rw [s145_5, hn, if_pos (ltn (show b < n by omega) (by omega))]
    obtain ⟨v, hv⟩ : ∃ v, v = (if W (6 * a + b) = 1 then 0 else ar σ t q (6 * a + b)) := ⟨_, rfl⟩
    have s1 : exec d 145 14 [vR 7 0, vR t q, vI (nI a), vI (en (pkf K W (ar σ t q) a b)), vI (nI b), v5, v6, v7] [] σ = exec d 145 43 [vR 7 0, vR t q, vI (nI a), vI (en (pkf K W (ar σ t q) a b)), vI (nI b), v5, v6, v7] [vI v] σ := by
      by_cases c : W (6 * a + b) = 1
      · rw [if_pos c] at hv
        simp only [s145_14, s145_26, s145_30, mul6N', addN, i1, j1, hW, c, hv, Option.bind_some, Option.toList_some, Option.toList_none, List.cons_append, List.nil_append, true_or, or_true, if_true, if_false, i10, i01, Bool.false_eq_true]
      · rw [if_neg c] at hv
        simp only [s145_14, s145_26, s145_34 ht, h36, mul6N', addN, i1, j1, hW, c, hv, Option.bind_some, Option.toList_some, Option.toList_none, List.cons_append, List.nil_append, true_or, or_true, if_true, if_false, i10, i01, Bool.false_eq_true]
    have hpos : (0 < v) = (0 < ar σ t q (6 * a + b) ∧ W (6 * a + b) = 0) := by
      rw [hv]
      rcases hW1 (6 * a + b) (by omega) with c | c
      · rw [c, if_neg (by decide)]; simp
      · rw [c, if_pos rfl]
        exact propext ⟨fun z => absurd z (by decide), fun z => absurd z.2 (by decide)⟩
    have hvt : 0 < v → v = ar σ t q (6 * a + b) := by
      intro z
      rw [hv]
      rcases hW1 (6 * a + b) (by omega) with c | c
      · rw [c, if_neg (by decide)]
      · rw [hv, c, if_pos rfl] at z; exact absurd z (by decide)
    rw [s1]
    have fin : ∀ (x6 x7 : Int32), (pkf K W (ar σ t q) a (b + 1) = some b → (0 < v) → ((en (pkf K W (ar σ t q) a b) = -1) ∨ ¬ x7 = 0)) → ((0 < v) → ((en (pkf K W (ar σ t q) a b) = -1) ∨ ¬ x7 = 0) → pkf K W (ar σ t q) a (b + 1) = some b) → (¬ ((0 < v) ∧ ((en (pkf K W (ar σ t q) a b) = -1) ∨ ¬ x7 = 0)) → pkf K W (ar σ t q) a (b + 1) = pkf K W (ar σ t q) a b) → exec d 145 101 [vR 7 0, vR t q, vI (nI a), vI (en (pkf K W (ar σ t q) a b)), vI (nI b), vI v, vI x6, v7] [vI x7] σ = some (some (vI (en (pick n K W (ar σ t q) a))), σ) := by
      intro x6 x7 _ h2 h3
      have ih' := fun v5 v6 v7 => ih (b + 1) v5 v6 v7 (by omega)
      by_cases c1 : 0 < v
      · by_cases c2 : en (pkf K W (ar σ t q) a b) = -1
        · rw [h2 c1 (Or.inl c2), en_some] at ih'
          simp only [s145_101, s145_108, s145_118, s145_124, c1, c2, add1N, Option.bind_some, Option.toList_some, Option.toList_none, List.cons_append, List.nil_append, true_or, or_true, if_true, if_false, i10, i01, Bool.false_eq_true]
          exact ih' _ _ _
        · by_cases c3 : x7 = 0
          · rw [h3 (fun z => z.2.elim c2 (fun y => y c3))] at ih'
            simp only [s145_101, s145_108, s145_113, s145_123, s145_124, c1, c2, c3, add1N, Option.bind_some, Option.toList_some, Option.toList_none, List.cons_append, List.nil_append, true_or, or_true, if_true, if_false, i10, i01, Bool.false_eq_true]
            exact ih' _ _ _
          · rw [h2 c1 (Or.inr c3), en_some] at ih'
            simp only [s145_101, s145_108, s145_113, s145_118, s145_124, c1, c2, c3, add1N, Option.bind_some, Option.toList_some, Option.toList_none, List.cons_append, List.nil_append, true_or, or_true, if_true, if_false, i10, i01, Bool.false_eq_true]
            exact ih' _ _ _
      · rw [h3 (fun z => c1 z.1)] at ih'
        simp only [s145_101, s145_123, s145_124, c1, add1N, Option.bind_some, Option.toList_some, Option.toList_none, List.cons_append, List.nil_append, true_or, or_true, if_true, if_false, i10, i01, Bool.false_eq_true]
        exact ih' _ _ _
    cases hp : pkf K W (ar σ t q) a b with
    | none =>
      rw [hp] at fin
      have e1 : en none = -1 := rfl
      rw [e1] at fin ⊢
      simp only [s145_43, s145_50, s145_62, oob_nI ha (by decide), cl6 ha, hK, Option.bind_some, Option.toList_some, Option.toList_none, List.cons_append, List.nil_append, true_or, or_true, if_true, if_false, i10, i01, Bool.false_eq_true]
      rw [l145_70]
      refine fin _ _ (fun _ _ => Or.inl rfl) (fun z _ => ?_) (fun z => ?_)
      · rw [hpos] at z
        exact pkf_t z.1 z.2 (by rw [hp]; trivial)
      · have hnv : ¬ 0 < v := fun y => z ⟨y, Or.inl rfl⟩
        rw [hpos] at hnv
        rw [pkf_f (fun y => hnv ⟨y.1, y.2.1⟩), hp]
    | some c =>
      have hcb := hlt c hp
      rw [hp] at fin
      have e2 : ¬ en (some c) = -1 := by rw [en_some, n1N (by omega)]; exact id
      have i2 : oob (nI (6 * a + c)) 36 = false := oob_nI (by omega) (by omega)
      have j2 : (nI (6 * a + c)).toNatClampNeg = 6 * a + c := clN (by omega)
      rw [en_some] at fin e2 ⊢
      simp only [s145_43, s145_54 ht, h36, s145_62, e2, mul6N', addN, i2, j2, oob_nI ha (by decide), cl6 ha, hK, Option.bind_some, Option.toList_some, Option.toList_none, List.cons_append, List.nil_append, true_or, or_true, if_true, if_false, i10, i01, Bool.false_eq_true]
      rw [l145_70]
      refine fin _ _ (fun h1 h2 => ?_) (fun z y => ?_) (fun z => ?_)
      · right
        have hb : bet K (ar σ t q) a b (pkf K W (ar σ t q) a b) := by
          by_cases hc : 0 < ar σ t q (6 * a + b) ∧ W (6 * a + b) = 0 ∧ bet K (ar σ t q) a b (pkf K W (ar σ t q) a b)
          · exact hc.2.2
          · rw [pkf_f hc, hp] at h1; cases h1; omega
        rw [hp] at hb
        simp only [bet] at hb
        rw [hvt h2]
        by_cases c3 : K a = 3
        · rw [if_pos c3] at hb
          rw [if_pos (Or.inl ⟨c3, hb⟩)]; decide
        · rw [if_neg c3] at hb
          rw [if_pos (Or.inr ⟨c3, hb⟩)]; decide
      · rcases y with y | y
        · exact absurd y e2
        · have z' := z
          rw [hpos] at z'
          refine pkf_t z'.1 z'.2 ?_
          rw [hp]
          rw [hvt z] at y
          simp only [bet]
          by_cases c4 : (K a = 3 ∧ ar σ t q (6 * a + b) < ar σ t q (6 * a + c)) ∨ (¬ K a = 3 ∧ ar σ t q (6 * a + c) < ar σ t q (6 * a + b))
          · rcases c4 with c4 | c4
            · rw [if_pos c4.1]; exact c4.2
            · rw [if_neg c4.1]; exact c4.2
          · rw [if_neg c4] at y; exact absurd rfl y
      · refine (pkf_f (fun y => z ?_)).trans hp
        have hv0 : 0 < v := by rw [hpos]; exact ⟨y.1, y.2.1⟩
        refine ⟨hv0, Or.inr ?_⟩
        have hb := y.2.2
        rw [hp] at hb
        simp only [bet] at hb
        rw [hvt hv0]
        by_cases c3 : K a = 3
        · rw [if_pos c3] at hb
          rw [if_pos (Or.inl ⟨c3, hb⟩)]; decide
        · rw [if_neg c3] at hb
          rw [if_pos (Or.inr ⟨c3, hb⟩)]; decide
theorem m_facesIn {t q a : Nat} (ht : t < 60) (h36 : lenT t = 36) (h6 : n ≤ 6) (hW1 : W01 W) (ha : a < 6) (h : Mn σ n K W) : call d 145 [vR 7 0, vR t q, vI (nI a)] σ = some (some (vI (en (pick n K W (ar σ t q) a))), σ) := by
  rw [s145_e, s145_0]
  exact l_facesIn ht h36 h6 hW1 ha h n 0 vN vN vN (by omega)
theorem m_layFaces {t q : Nat} (ht : t < 60) (h37 : t ≠ 37) (h36 : lenT t = 36) (h6 : n ≤ 6) (hW1 : W01 W) (h : Mn σ n K W) : ∃ σ', call (d + 1) 146 [vR 7 0, vR t q] σ = some (none, σ') ∧ Fc σ' n (pick n K W (ar σ t q)) ∧ Ag (fun t q => t = 37 ∧ q = 0) σ σ' := by
  refine ⟨sw σ 37 0 (fun a => if a < n then en (pick n K W (ar σ t q) a) else ar σ 37 0 a), ?_, fun a ha => by rw [ar_sw_s, if_pos ha], Ag.sw ⟨rfl, rfl⟩⟩
  rw [s146_e, s146_0]
  have key := down0 (Pr := fun b => exec (d + 1) 146 2 [vR 7 0, vR t q, vI (nI b)] [] (sw σ 37 0 (fun a => if a < b then en (pick n K W (ar σ t q) a) else ar σ 37 0 a)) = some (none, sw σ 37 0 (fun a => if a < n then en (pick n K W (ar σ t q) a) else ar σ 37 0 a))) n (fun b hb ih => ?_) ?_
  · have e0 : sw σ 37 0 (fun a => if a < 0 then en (pick n K W (ar σ t q) a) else ar σ 37 0 a) = σ := sw_id (by funext a; rw [if_neg (by omega)])
    have key : exec (d + 1) 146 2 [vR 7 0, vR t q, vI (nI 0)] [] (sw σ 37 0 (fun a => if a < 0 then en (pick n K W (ar σ t q) a) else ar σ 37 0 a)) = _ := key
    rw [e0] at key
    exact key
  · have hM : Mn (sw σ 37 0 (fun a => if a < b then en (pick n K W (ar σ t q) a) else ar σ 37 0 a)) n K W := h.ag (S := fun t _ => t = 37) (Ag.sw rfl) (by omega) (by omega) (by omega)
    have e1 : upd (fun a => if a < b then en (pick n K W (ar σ t q) a) else ar σ 37 0 a) b (en (pick n K W (ar σ t q) b)) = (fun a => if a < b + 1 then en (pick n K W (ar σ t q) a) else ar σ 37 0 a) := by
      funext j
      rw [upd_if]
      by_cases hj : j = b
      · rw [if_pos hj, if_pos (by omega), hj]
      · rw [if_neg hj]
        by_cases hj2 : j < b
        · rw [if_pos hj2, if_pos (by omega)]
        · rw [if_neg hj2, if_neg (by omega)]
    have hf := m_facesIn (d := d) (q := q) (a := b) ht h36 h6 hW1 (by omega) hM
    rw [ar_sw_t h37] at hf
    rw [s146_2, hM.1, if_pos (ltn hb (by omega))]
    simp only [s146_10, s146_21, s146_22, hf, oob_nI (show b < 6 by omega) (by decide), cl6 (show b < 6 by omega), Option.bind_some, Option.toList_some, Option.toList_none, List.cons_append, List.nil_append, true_or, or_true, if_true, if_false, i10, i01, Bool.false_eq_true, ar_sw_t, ar_sw_s, se_def, sw_sw, ne_eq, not_false_eq_true, Nat.reduceEqDiff, add1N, e1]
    exact ih
  · have hM : Mn (sw σ 37 0 (fun a => if a < n then en (pick n K W (ar σ t q) a) else ar σ 37 0 a)) n K W := h.ag (S := fun t _ => t = 37) (Ag.sw rfl) (by omega) (by omega) (by omega)
    rw [s146_2, hM.1, if_neg nlt, s146_28]
end MD
/-! what the faces tell -/
section MF
variable {d : Nat} {σ : St} {n : Nat} {F : Nat → Option Nat}
theorem m_stares {a : Nat} (h6 : n ≤ 6) (hF : Fc σ n F) (hv : ∀ a b, F a = some b → b < n) (ha : a < n) : call d 147 [vR 7 0, vI (nI a)] σ = some (some (vI (if star F a = true then 1 else 0)), σ) := by
  have i1 := oob_nI (show a < 6 by omega) (by decide)
  have j1 := cl6 (show a < 6 by omega)
  have hfa := hF a ha
  cases hf : F a with
  | none =>
    have hs : star F a = false := by unfold star; rw [hf]
    rw [hf, en_none] at hfa
    simp only [s147_e, s147_0, s147_6, s147_10, s147_20, s147_21, s147_25, s147_29, s147_30, i1, j1, hfa, hs, Option.bind_some, Option.toList_some, Option.toList_none, List.cons_append, List.nil_append, true_or, or_true, if_true, if_false, i10, i01, Bool.false_eq_true]
  | some b =>
    have hb := hv a b hf
    have hs : star F a = decide (F b = some a) := by unfold star; rw [hf]
    rw [hf, en_some] at hfa
    have e1 := en_eq (o := F b) (a := a) (by omega) (fun c h => by have := hv _ _ h; omega)
    have hfb := hF b hb
    rw [hs]
    by_cases c1 : F b = some a
    · simp only [s147_e, s147_0, s147_6, s147_10, s147_20, s147_21, s147_25, s147_29, s147_30, i1, j1, hfa, hfb, n1N (show b ≤ 100000 by omega), oob_nI (show b < 6 by omega) (by decide), cl6 (show b < 6 by omega), e1.trans (eq_true c1), decide_eq_true c1, Option.bind_some, Option.toList_some, Option.toList_none, List.cons_append, List.nil_append, true_or, or_true, if_true, if_false, i10, i01, Bool.false_eq_true]
    · simp only [s147_e, s147_0, s147_6, s147_10, s147_20, s147_21, s147_25, s147_29, s147_30, i1, j1, hfa, hfb, n1N (show b ≤ 100000 by omega), oob_nI (show b < 6 by omega) (by decide), cl6 (show b < 6 by omega), e1.trans (eq_false c1), decide_eq_false c1, Option.bind_some, Option.toList_some, Option.toList_none, List.cons_append, List.nil_append, true_or, or_true, if_true, if_false, i10, i01, Bool.false_eq_true]
theorem m_staresMany (hn : ar σ 7 0 3 = nI n) (h6 : n ≤ 6) (hF : Fc σ n F) (hv : ∀ a b, F a = some b → b < n) : call (d + 1) 148 [vR 7 0] σ = some (some (vI (nI (cn (fun a => star F a && lts (F a) a) n))), σ) := by
  rw [s148_e, s148_0]
  refine down0 (Pr := fun b => exec (d + 1) 148 4 [vR 7 0, vI (nI (cn (fun a => star F a && lts (F a) a) b)), vI (nI b)] [] σ = some (some (vI (nI (cn (fun a => star F a && lts (F a) a) n))), σ)) n (fun b hb ih => ?_) ?_
  · rw [s148_4, hn, if_pos (ltn hb (by omega))]
    have e1 := en_lts (o := F b) (a := b) (n := n) (by omega) (by omega) (fun c h => hv _ _ h)
    cases c1 : star F b with
    | false =>
      rw [cn, if_neg (by rw [c1]; exact Bool.false_ne_true)] at ih
      simp only [s148_12, s148_18, s148_35, s148_36, m_stares h6 hF hv hb, c1, add1N, Int32.add_zero, Option.bind_some, Option.toList_some, Option.toList_none, List.cons_append, List.nil_append, true_or, or_true, if_true, if_false, i10, i01, Bool.false_eq_true]
      exact ih
    | true =>
      cases c2 : lts (F b) b with
      | false =>
        rw [c2] at e1
        rw [cn, if_neg (by rw [c1, c2]; exact Bool.false_ne_true)] at ih
        simp only [s148_12, s148_18, s148_21, s148_27, s148_35, s148_36, m_stares h6 hF hv hb, c1, oob_nI (show b < 6 by omega) (by decide), cl6 (show b < 6 by omega), hF b hb, e1, add1N, Int32.add_zero, Option.bind_some, Option.toList_some, Option.toList_none, List.cons_append, List.nil_append, true_or, or_true, if_true, if_false, i10, i01, Bool.false_eq_true]
        exact ih
      | true =>
        rw [c2] at e1
        rw [cn, if_pos (by rw [c1, c2]; rfl)] at ih
        simp only [s148_12, s148_18, s148_21, s148_27, s148_31, s148_36, m_stares h6 hF hv hb, c1, oob_nI (show b < 6 by omega) (by decide), cl6 (show b < 6 by omega), hF b hb, e1, add1N, Option.bind_some, Option.toList_some, Option.toList_none, List.cons_append, List.nil_append, true_or, or_true, if_true, if_false, i10, i01, Bool.false_eq_true]
        exact ih
  · rw [s148_4, hn, if_neg nlt, s148_44]
theorem l_ringOf {a : Nat} (hn : ar σ 7 0 3 = nI n) (h6 : n ≤ 6) (hF : Fc σ n F) (hv : ∀ a b, F a = some b → b < n) (ha : a < n) : ∀ m s (o : Option Nat), s + m = n + 1 → (∀ x, o = some x → x < n) → exec d 149 9 [vR 7 0, vI (nI a), vI (en o), vI (nI s)] [] σ = some (some (vI (nI (mrg F a m s o))), σ) := by
  have e2 : ∀ s, s ≤ 1000 → ((2 : Int32) < nI s) = (2 < s) := fun s hs => by rw [show (2 : Int32) = nI 2 from rfl, ltN (by omega) (by omega)]
  have en1 : ¬ (-1 : Int32) = nI a := fun z => by have := n1N (a := a) (by omega); rw [← z] at this; exact this ▸ rfl
  have hit : ∀ s, s ≤ 1000 → exec d 149 40 [vR 7 0, vI (nI a), vI (nI a), vI (nI s)] [] σ = some (some (vI (nI (if 2 < s then s else 0))), σ) := by
    intro s hs
    by_cases c : 2 < s
    · rw [if_pos c]
      simp only [s149_40, s149_45, s149_50, s149_55, (e2 s hs).trans (eq_true c), Option.bind_some, Option.toList_some, Option.toList_none, List.cons_append, List.nil_append, true_or, or_true, if_true, if_false, i10, i01, Bool.false_eq_true]
    · rw [if_neg c]
      simp only [s149_40, s149_45, s149_54, s149_55, (e2 s hs).trans (eq_false c), Option.bind_some, Option.toList_some, Option.toList_none, List.cons_append, List.nil_append, true_or, or_true, if_true, if_false, i10, i01, Bool.false_eq_true]
      rfl
  intro m
  induction m with
  | zero =>
    intro s o hs ho
    cases o with
    | none =>
      have : mrg F a 0 s none = 0 := by unfold mrg; rfl
      rw [this]
      simp only [s149_9, s149_40, s149_54, s149_55, en_none, en1, Option.bind_some, Option.toList_some, Option.toList_none, List.cons_append, List.nil_append, true_or, or_true, if_true, if_false, i10, i01, Bool.false_eq_true]
      rfl
    | some b =>
      have hb := ho b rfl
      have e1 : (nI b = nI a) = (b = a) := eqN (by omega) (by omega)
      have lt1 : nI n < nI s := ltn (by omega) (by omega)
      rw [mrg]
      by_cases c : b = a
      · subst c
        rw [if_pos rfl]
        simp only [s149_9, s149_14, en_some, n1N (show b ≤ 100000 by omega), Option.bind_some, Option.toList_some, Option.toList_none, List.cons_append, List.nil_append, true_or, or_true, if_true, if_false, i10, i01, Bool.false_eq_true]
        exact hit s (by omega)
      · rw [if_neg c]
        simp only [s149_9, s149_14, s149_19, s149_40, s149_54, s149_55, en_some, n1N (show b ≤ 100000 by omega), e1.trans (eq_false c), hn, lt1, Option.bind_some, Option.toList_some, Option.toList_none, List.cons_append, List.nil_append, true_or, or_true, if_true, if_false, i10, i01, Bool.false_eq_true]
        rfl
  | succ m ih =>
    intro s o hs ho
    cases o with
    | none =>
      have : mrg F a (m + 1) s none = 0 := by unfold mrg; rfl
      rw [this]
      simp only [s149_9, s149_40, s149_54, s149_55, en_none, en1, Option.bind_some, Option.toList_some, Option.toList_none, List.cons_append, List.nil_append, true_or, or_true, if_true, if_false, i10, i01, Bool.false_eq_true]
      rfl
    | some b =>
      have hb := ho b rfl
      have e1 : (nI b = nI a) = (b = a) := eqN (by omega) (by omega)
      have lt1 : ¬ nI n < nI s := by rw [ltN (by omega) (by omega)]; omega
      rw [mrg]
      by_cases c : b = a
      · subst c
        rw [if_pos rfl]
        simp only [s149_9, s149_14, en_some, n1N (show b ≤ 100000 by omega), Option.bind_some, Option.toList_some, Option.toList_none, List.cons_append, List.nil_append, true_or, or_true, if_true, if_false, i10, i01, Bool.false_eq_true]
        exact hit s (by omega)
      · rw [if_neg c]
        rw [s149_9]
        simp only [s149_14, s149_19, s149_27, s149_33, en_some, n1N (show b ≤ 100000 by omega), e1.trans (eq_false c), hn, lt1, oob_nI (show b < 6 by omega) (by decide), cl6 (show b < 6 by omega), hF b hb, add1N, Option.bind_some, Option.toList_some, Option.toList_none, List.cons_append, List.nil_append, true_or, or_true, if_true, if_false, i10, i01, Bool.false_eq_true]
        exact ih (s + 1) (F b) (by omega) (hv b)
theorem m_ringOf {a : Nat} (hn : ar σ 7 0 3 = nI n) (h6 : n ≤ 6) (hF : Fc σ n F) (hv : ∀ a b, F a = some b → b < n) (ha : a < n) : call d 149 [vR 7 0, vI (nI a)] σ = some (some (vI (nI (rsz F n a))), σ) := by
  rw [← mrg_rsz hv ha]
  simp only [s149_e, s149_0, s149_6, oob_nI (show a < 6 by omega) (by decide), cl6 (show a < 6 by omega), hF a ha, Option.bind_some, Option.toList_some, Option.toList_none, List.cons_append, List.nil_append, true_or, or_true, if_true, if_false, i10, i01, Bool.false_eq_true]
  exact l_ringOf hn h6 hF hv ha n 1 (F a) (by omega) (hv a)
theorem rsz_le {a : Nat} : rsz F n a ≤ n := by
  by_cases h : 0 < rsz F n a
  · exact (rsz_pos h).2.1
  · omega
theorem m_leadsRing {a : Nat} (hn : ar σ 7 0 3 = nI n) (h6 : n ≤ 6) (hF : Fc σ n F) (hv : ∀ a b, F a = some b → b < n) (ha : a < n) : call (d + 1) 150 [vR 7 0, vI (nI a)] σ = some (some (vI (@ite _ (led F n a) (Classical.propDecidable _) 1 0)), σ) := by
  have hle := rsz_le (F := F) (n := n) (a := a)
  have e0 : ((0 : Int32) < nI (rsz F n a)) = (0 < rsz F n a) := by rw [show (0 : Int32) = nI 0 from rfl, ltN (by omega) (by omega)]
  by_cases h0 : 0 < rsz F n a
  · have hR := rsz_pos h0
    have loop : ∀ m j (b : Nat), 1 ≤ j → j + m = rsz F n a → it F j a = some b → (∀ i c, 1 ≤ i → i < j → it F i a = some c → a < c) → exec (d + 1) 150 21 [vR 7 0, vI (nI a), vI (nI b), vI 1] [] σ = some (some (vI (@ite _ (led F n a) (Classical.propDecidable _) 1 0)), σ) := by
      intro m
      induction m with
      | zero =>
        intro j b hj hm hb hall
        have ej : j = rsz F n a := by omega
        have eb : b = a := by rw [ej, hR.2.2.1] at hb; cases hb; rfl
        have hl : led F n a := ⟨h0, fun i c h1 h2 h3 => hall i c h1 (by omega) h3⟩
        rw [if_pos hl, eb]
        simp only [s150_21, s150_25, s150_51, Option.bind_some, Option.toList_some, Option.toList_none, List.cons_append, List.nil_append, true_or, or_true, if_true, if_false, i10, i01, Bool.false_eq_true]
      | succ m ih =>
        intro j b hj hm hb hall
        have hbn := it_lt hv j a b ha hb
        have hne : b ≠ a := fun z => hR.2.2.2 j hj (by omega) (by rw [hb, z])
        have e1 : (nI b = nI a) = (b = a) := eqN (by omega) (by omega)
        have e2 : (nI a < nI b) = (a < b) := ltN (by omega) (by omega)
        by_cases c : a < b
        · obtain ⟨b', hb'⟩ := it_some hR.2.2.1 (show j + 1 ≤ rsz F n a by omega)
          have hfb : F b = some b' := by rw [it, hb] at hb'; exact hb'
          have hfe := hF b hbn
          rw [hfb, en_some] at hfe
          rw [s150_21]
          simp only [s150_25, s150_30, s150_35, s150_40, s150_47, e1.trans (eq_false hne), e2.trans (eq_true c), oob_nI (show b < 6 by omega) (by decide), cl6 (show b < 6 by omega), hfe, Option.bind_some, Option.toList_some, Option.toList_none, List.cons_append, List.nil_append, true_or, or_true, if_true, if_false, i10, i01, Bool.false_eq_true]
          refine ih (j + 1) b' (by omega) (by omega) hb' (fun i x h1 h2 h3 => ?_)
          by_cases e : i = j
          · rw [e, hb] at h3; cases h3; exact c
          · exact hall i x h1 (by omega) h3
        · have hl : ¬ led F n a := fun z => c (z.2 j b hj (by omega) hb)
          rw [if_neg hl]
          rw [s150_21]
          simp only [s150_25, s150_30, s150_39, s150_40, s150_47, e1.trans (eq_false hne), e2.trans (eq_false c), oob_nI (show b < 6 by omega) (by decide), cl6 (show b < 6 by omega), Option.bind_some, Option.toList_some, Option.toList_none, List.cons_append, List.nil_append, true_or, or_true, if_true, if_false, i10, i01, Bool.false_eq_true]
          rw [s150_21]
          simp only [s150_51, Option.bind_some, Option.toList_some, Option.toList_none, List.cons_append, List.nil_append, true_or, or_true, if_true, if_false, i10, i01, Bool.false_eq_true]
    obtain ⟨b, hb⟩ := it_some hR.2.2.1 (show 1 ≤ rsz F n a by have := hR.1; omega)
    have hfb : F a = some b := hb
    have hfe := hF a ha
    rw [hfb, en_some] at hfe
    have := loop (rsz F n a - 1) 1 b (by omega) (by omega) hb (fun i c h1 h2 _ => by omega)
    simp only [s150_e, s150_0, s150_6, s150_12, s150_15, s150_20, oob_nI (show a < 6 by omega) (by decide), cl6 (show a < 6 by omega), m_ringOf hn h6 hF hv ha, e0.trans (eq_true h0), hfe, Option.bind_some, Option.toList_some, Option.toList_none, List.cons_append, List.nil_append, true_or, or_true, if_true, if_false, i10, i01, Bool.false_eq_true]
    exact this
  · have hl : ¬ led F n a := fun z => h0 z.1
    rw [if_neg hl]
    simp only [s150_e, s150_0, s150_6, s150_12, s150_19, s150_20, s150_21, s150_51, oob_nI (show a < 6 by omega) (by decide), cl6 (show a < 6 by omega), m_ringOf hn h6 hF hv ha, e0.trans (eq_false h0), Option.bind_some, Option.toList_some, Option.toList_none, List.cons_append, List.nil_append, true_or, or_true, if_true, if_false, i10, i01, Bool.false_eq_true]
theorem m_ringsMany (hn : ar σ 7 0 3 = nI n) (h6 : n ≤ 6) (hF : Fc σ n F) (hv : ∀ a b, F a = some b → b < n) : call (d + 2) 151 [vR 7 0] σ = some (some (vI (nI (crs F n n).1)), σ) := by
  rw [s151_e, s151_0, crs_cn]
  refine down0 (Pr := fun b => exec (d + 2) 151 4 [vR 7 0, vI (nI (cn (fun b => @decide (led F n b) (Classical.propDecidable _)) b)), vI (nI b)] [] σ = some (some (vI (nI (cn (fun b => @decide (led F n b) (Classical.propDecidable _)) n))), σ)) n (fun b hb ih => ?_) ?_
  · have hl := m_leadsRing (d := d) hn h6 hF hv hb
    rw [s151_4, hn, if_pos (ltn hb (by omega))]
    by_cases c : led F n b
    · rw [cn, if_pos (@decide_eq_true _ (Classical.propDecidable _) c)] at ih
      rw [if_pos c] at hl
      simp only [s151_12, s151_18, s151_21, s151_26, hl, add1N, Option.bind_some, Option.toList_some, Option.toList_none, List.cons_append, List.nil_append, true_or, or_true, if_true, if_false, i10, i01, Bool.false_eq_true]
      exact ih
    · rw [cn, if_neg (fun z => c (@of_decide_eq_true _ (Classical.propDecidable _) z))] at ih
      rw [if_neg c] at hl
      simp only [s151_12, s151_18, s151_25, s151_26, hl, add1N, Int32.add_zero, Option.bind_some, Option.toList_some, Option.toList_none, List.cons_append, List.nil_append, true_or, or_true, if_true, if_false, i10, i01, Bool.false_eq_true]
      exact ih
  · rw [s151_4, hn, if_neg nlt, s151_34]
theorem m_facedBy {a : Nat} (hn : ar σ 7 0 3 = nI n) (h6 : n ≤ 6) (hF : Fc σ n F) (hv : ∀ a b, F a = some b → b < n) (ha : a < 6) : call d 152 [vR 7 0, vI (nI a)] σ = some (some (vI (nI (fbit F a n))), σ) := by
  rw [s152_e, s152_0]
  refine down0 (Pr := fun b => exec d 152 4 [vR 7 0, vI (nI a), vI (nI (fbit F a b)), vI (nI b)] [] σ = some (some (vI (nI (fbit F a n))), σ)) n (fun b hb ih => ?_) ?_
  · have hB := fbit_lt (F := F) (a := a) (n := b) (by omega)
    have e3 := bits_or _ hB b (by omega)
    have e1 := en_eq (o := F b) (a := a) (by omega) (fun c h => by have := hv _ _ h; omega)
    rw [s152_4, hn, if_pos (ltn hb (by omega))]
    by_cases c1 : F b = some a
    · rw [fbit, if_pos c1] at ih
      simp only [s152_12, s152_19, s152_23, s152_30, oob_nI (show b < 6 by omega) (by decide), cl6 (show b < 6 by omega), hF b hb, e1.trans (eq_true c1), e3, add1N, Option.bind_some, Option.toList_some, Option.toList_none, List.cons_append, List.nil_append, true_or, or_true, if_true, if_false, i10, i01, Bool.false_eq_true]
      exact ih
    · rw [fbit, if_neg c1] at ih
      simp only [s152_12, s152_19, s152_29, s152_30, oob_nI (show b < 6 by omega) (by decide), cl6 (show b < 6 by omega), hF b hb, e1.trans (eq_false c1), Int32.or_zero, add1N, Option.bind_some, Option.toList_some, Option.toList_none, List.cons_append, List.nil_append, true_or, or_true, if_true, if_false, i10, i01, Bool.false_eq_true]
      exact ih
  · rw [s152_4, hn, if_neg nlt, s152_38]
theorem m_riverMany (hn : ar σ 7 0 3 = nI n) (h6 : n ≤ 6) (hF : Fc σ n F) (hv : ∀ a b, F a = some b → b < n) : call d 153 [vR 7 0] σ = some (some (vI (nI (cn (fun a => decide (F a = none)) n))), σ) := by
  rw [s153_e, s153_0]
  refine down0 (Pr := fun b => exec d 153 4 [vR 7 0, vI (nI (cn (fun a => decide (F a = none)) b)), vI (nI b)] [] σ = some (some (vI (nI (cn (fun a => decide (F a = none)) n))), σ)) n (fun b hb ih => ?_) ?_
  · have e1 := en_m1 (o := F b) (fun c h => by have := hv _ _ h; omega)
    rw [s153_4, hn, if_pos (ltn hb (by omega))]
    by_cases c1 : F b = none
    · rw [cn, if_pos (decide_eq_true c1)] at ih
      simp only [s153_12, s153_19, s153_23, s153_28, oob_nI (show b < 6 by omega) (by decide), cl6 (show b < 6 by omega), hF b hb, e1.trans (eq_true c1), add1N, Option.bind_some, Option.toList_some, Option.toList_none, List.cons_append, List.nil_append, true_or, or_true, if_true, if_false, i10, i01, Bool.false_eq_true]
      exact ih
    · rw [cn, if_neg (by rw [decide_eq_true_eq]; exact c1)] at ih
      simp only [s153_12, s153_19, s153_27, s153_28, oob_nI (show b < 6 by omega) (by decide), cl6 (show b < 6 by omega), hF b hb, e1.trans (eq_false c1), add1N, Int32.add_zero, Option.bind_some, Option.toList_some, Option.toList_none, List.cons_append, List.nil_append, true_or, or_true, if_true, if_false, i10, i01, Bool.false_eq_true]
      exact ih
  · rw [s153_4, hn, if_neg nlt, s153_36]
theorem m_angerAll {a : Nat} (hn : ar σ 7 0 3 = nI n) (h6 : n ≤ 6) (ha : a < 6) : call d 155 [vR 7 0, vI (nI a)] σ = some (some (vI (sm (fun b => ar σ 35 0 (6 * a + b)) n)), σ) := by
  rw [s155_e, s155_0]
  refine down0 (Pr := fun b => exec d 155 4 [vR 7 0, vI (nI a), vI (sm (fun b => ar σ 35 0 (6 * a + b)) b), vI (nI b)] [] σ = some (some (vI (sm (fun b => ar σ 35 0 (6 * a + b)) n)), σ)) n (fun b hb ih => ?_) ?_
  · have i1 : oob (nI (6 * a + b)) 36 = false := oob_nI (by omega) (by omega)
    have j1 : (nI (6 * a + b)).toNatClampNeg = 6 * a + b := clN (by omega)
    rw [s155_4, hn, if_pos (ltn hb (by omega))]
    simp only [s155_12, s155_24, mul6N', addN, i1, j1, add1N, Option.bind_some, Option.toList_some, Option.toList_none, List.cons_append, List.nil_append, true_or, or_true, if_true, if_false, i10, i01, Bool.false_eq_true]
    exact ih
  · rw [s155_4, hn, if_neg nlt, s155_32]
theorem l_layLine (hn : ar σ 7 0 3 = nI n) (h6 : n ≤ 6) (hv : ∀ a b, F a = some b → b < n) : ∀ m i B (o : Option Nat) (a : Int32) (σ : St), ar σ 7 0 3 = nI n → Fc σ n F → B < 64 → cn (fun y => B.testBit y) n + m = n → i + m ≤ n → (∀ x, o = some x → x < n) → ∃ σ', exec d 154 7 [vR 7 0, vI a, vI (nI i), vI (nI B), vI (en o)] [] σ = some (some (vI (nI (i + (vgo F m B o).length))), σ') ∧ (∀ j, j < i → ar σ' 38 0 j = ar σ 38 0 j) ∧ (∀ j x, (vgo F m B o)[j]? = some x → ar σ' 38 0 (i + j) = nI x) ∧ Ag (fun t q => t = 38 ∧ q = 0) σ σ' := by
  intro m
  induction m with
  | zero =>
    intro i B o a σ hn hF hB hcn hi ho
    have e : vgo F 0 B o = [] := by cases o <;> rfl
    rw [e]
    refine ⟨σ, ?_, fun _ _ => rfl, fun j x h => (by cases h), Ag.rf⟩
    cases o with
    | none => simp only [s154_7, s154_52, en_none, Option.bind_some, Option.toList_some, Option.toList_none, List.cons_append, List.nil_append, true_or, or_true, if_true, if_false, i10, i01, Bool.false_eq_true]; rfl
    | some x =>
      have hx := ho x rfl
      have hb := cn_full (show cn (fun y => B.testBit y) n = n by omega) x hx
      simp only [s154_7, s154_13, s154_52, en_some, n1N (show x ≤ 100000 by omega), bits_at B hB x (show x < 6 by omega), hb, Option.bind_some, Option.toList_some, Option.toList_none, List.cons_append, List.nil_append, true_or, or_true, if_true, if_false, i10, i01, Bool.false_eq_true]
      rfl
  | succ m ih =>
    intro i B o a σ hn hF hB hcn hi ho
    cases o with
    | none =>
      refine ⟨σ, ?_, fun _ _ => rfl, fun j x h => (by cases h), Ag.rf⟩
      simp only [s154_7, s154_52, en_none, Option.bind_some, Option.toList_some, Option.toList_none, List.cons_append, List.nil_append, true_or, or_true, if_true, if_false, i10, i01, Bool.false_eq_true]
      rfl
    | some x =>
      have hx := ho x rfl
      cases hb : B.testBit x with
      | true =>
        have e : vgo F (m + 1) B (some x) = [] := by rw [vgo, if_pos hb]
        rw [e]
        refine ⟨σ, ?_, fun _ _ => rfl, fun j x h => (by cases h), Ag.rf⟩
        simp only [s154_7, s154_13, s154_52, en_some, n1N (show x ≤ 100000 by omega), bits_at B hB x (show x < 6 by omega), hb, Option.bind_some, Option.toList_some, Option.toList_none, List.cons_append, List.nil_append, true_or, or_true, if_true, if_false, i10, i01, Bool.false_eq_true]
        rfl
      | false =>
        have e : vgo F (m + 1) B (some x) = x :: vgo F m (B ||| 2 ^ x) (F x) := by rw [vgo, if_neg (by rw [hb]; exact Bool.false_ne_true)]
        rw [e]
        have hF2 : Fc (se σ 38 0 i (nI x)) n F := hF.ag (S := fun t _ => t = 38) (Ag.sw rfl) (by omega)
        have hn2 : ar (se σ 38 0 i (nI x)) 7 0 3 = nI n := by rw [se_def, ar_sw_t (by decide)]; exact hn
        obtain ⟨σ', e1, h1, h2, g1⟩ := ih (i + 1) (B ||| 2 ^ x) (F x) a (se σ 38 0 i (nI x)) hn2 hF2 (bits_lt B hB x (by omega)) (by rw [cn_set hb n hx]; omega) (by omega) (hv x)
        refine ⟨σ', ?_, fun j hj => ?_, fun j y hy => ?_, (Ag.sw ⟨rfl, rfl⟩).tr g1⟩
        · rw [s154_7]
          simp only [s154_13, s154_22, s154_30, s154_47, en_some, n1N (show x ≤ 100000 by omega), bits_at B hB x (show x < 6 by omega), hb, oob_nI (show i < 6 by omega) (by decide), clN (show i ≤ 100000 by omega), oob_nI (show x < 6 by omega) (by decide), cl6 (show x < 6 by omega), hF2 x hx, bits_or B hB x (show x < 6 by omega), add1N, Option.bind_some, Option.toList_some, Option.toList_none, List.cons_append, List.nil_append, true_or, or_true, if_true, if_false, i10, i01, Bool.false_eq_true]
          rw [e1, List.length_cons, show i + 1 + (vgo F m (B ||| 2 ^ x) (F x)).length = i + ((vgo F m (B ||| 2 ^ x) (F x)).length + 1) by omega]
        · rw [h1 j (by omega), se_def, ar_sw_s, upd_n (by omega)]
        · cases j with
          | zero =>
            cases hy
            rw [Nat.add_zero, h1 i (by omega), se_def, ar_sw_s, upd_s]
          | succ j =>
            have := h2 j y hy
            rw [show i + (j + 1) = i + 1 + j by omega, this]
theorem m_layLine {a : Nat} (hn : ar σ 7 0 3 = nI n) (h6 : n ≤ 6) (hF : Fc σ n F) (hv : ∀ a b, F a = some b → b < n) (ha : a < n) : ∃ σ', call d 154 [vR 7 0, vI (nI a)] σ = some (some (vI (nI (vgo F n 0 (some a)).length)), σ') ∧ (∀ j x, (vgo F n 0 (some a))[j]? = some x → ar σ' 38 0 j = nI x) ∧ Ag (fun t q => t = 38 ∧ q = 0) σ σ' := by
  obtain ⟨σ', e, -, h2, g⟩ := l_layLine (d := d) hn h6 hv n 0 0 (some a) (nI a) σ hn hF (by omega) (by rw [cn_0]; omega) (by omega) (fun x h => by cases h; exact ha)
  refine ⟨σ', ?_, fun j x h => by have := h2 j x h; rw [Nat.zero_add] at this; exact this, g⟩
  rw [s154_e, s154_0]
  rw [Nat.zero_add] at e
  exact e
end MF

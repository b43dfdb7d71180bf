/-! Letters, the page. -/
def kd (c : Nat) : Option Nat := if c = 104 then some 0 else if c = 116 then some 1 else if c = 109 then some 2 else if c = 115 then some 3 else if c = 102 then some 4 else none
def dg (c : Nat) : Option Nat := if 48 ≤ c ∧ c ≤ 57 then some (c - 48) else none
theorem kd_lt {c k : Nat} (h : kd c = some k) : k < 5 := by
  unfold kd at h
  repeat (split at h; · cases h; omega)
  cases h
theorem dg_lt {c k : Nat} (h : dg c = some k) : k < 10 ∧ c = 48 + k := by
  unfold dg at h
  split at h
  · cases h; omega
  · cases h
theorem u16 : ∀ c, c < 127 → ((nI c).toUInt32 % 65536).toInt32 = nI c := by decide +kernel
theorem i8 : ∀ c, c < 127 → (nI c).toInt8.toInt32 = nI c := by decide +kernel
theorem gt255 : ∀ c, c < 127 → ¬ (255 : Int32) < nI c := by decide +kernel
theorem eqK {c k : Nat} (hc : c < 127) (hk : k ≤ 1000) : (nI k = nI c) = (k = c) := eqN (by omega) (by omega)
section PG
variable {d : Nat} {σ : St} {q : Nat}
theorem c_isLatin1 : call d 218 [vR 62 q] σ = some (some (vI 1), σ) := by
  simp only [s218_e, s218_0, s218_6, s218_13, s218_17, s218_18, Option.bind_some, Option.toList_some, Option.toList_none, List.cons_append, List.nil_append, true_or, or_true, if_true, if_false, i10, i01, Bool.false_eq_true]
theorem c_coder : call d 220 [vR 62 q] σ = some (some (vI 0), σ) := by
  simp only [s220_e, s220_0, s220_6, s220_13, s220_14, Option.bind_some, Option.toList_some, Option.toList_none, List.cons_append, List.nil_append, true_or, or_true, if_true, if_false, i10, i01, Bool.false_eq_true]
theorem c_length : call (d + 1) 219 [vR 62 q] σ = some (some (vI 5), σ) := by
  simp only [s219_e, s219_0, s219_9, c_coder, Option.bind_some, Option.toList_some, Option.toList_none, List.cons_append, List.nil_append, true_or, or_true, if_true, if_false, i10, i01, Bool.false_eq_true]
  rfl
theorem c_canEncode {c : Nat} (hc : c < 127) : call d 222 [vI (nI c)] σ = some (some (vI 1), σ) := by
  simp only [s222_e, s222_0, s222_4, s222_11, s222_15, s222_16, lt0N (show c ≤ 100000 by omega), gt255 c hc, Option.bind_some, Option.toList_some, Option.toList_none, List.cons_append, List.nil_append, true_or, or_true, if_true, if_false, i10, i01, Bool.false_eq_true]
theorem c_indexOfChar {c : Nat} (hc : c < 127) : call d 223 [vR 63 q, vI (nI c), vI 0, vI 5] σ = some (some (vI (en (kd c))), σ) := by
  have e0 : (0 : Int32) = nI 0 := rfl
  have e5 : (5 : Int32) = nI 5 := rfl
  have r0 : roF 63 0 = nI 104 := rfl
  have r1 : roF 63 1 = nI 116 := rfl
  have r2 : roF 63 2 = nI 109 := rfl
  have r3 : roF 63 3 = nI 115 := rfl
  have r4 : roF 63 4 = nI 102 := rfl
  have key : ∀ m b, b + m = 5 → exec d 223 7 [vR 63 q, vI (nI c), vI 0, vI 5, vI (nI c), vI (nI b)] [] σ = some (some (vI (en (if b ≤ 0 ∧ c = 104 then some 0 else if b ≤ 1 ∧ c = 116 then some 1 else if b ≤ 2 ∧ c = 109 then some 2 else if b ≤ 3 ∧ c = 115 then some 3 else if b ≤ 4 ∧ c = 102 then some 4 else none))), σ) := by
    intro m
    induction m with
    | zero =>
      intro b hb
      have e : b = 5 := by omega
      subst e
      rw [s223_7, e5, if_neg nlt, s223_31]
      rfl
    | succ m ih =>
      intro b hb
      have ih' := ih (b + 1) (by omega)
      rw [s223_7, e5, if_pos (ltn (show b < 5 by omega) (by omega)), ← e5]
      have hb5 : b = 0 ∨ b = 1 ∨ b = 2 ∨ b = 3 ∨ b = 4 := by omega
      rcases hb5 with rfl | rfl | rfl | rfl | rfl
      · by_cases h : 104 = c
        · subst h
          simp only [s223_13, s223_17, s223_22, oob_nI (show 0 < 5 by omega) (by decide), clN (show 0 ≤ 100000 by omega), r0, Option.bind_some, Option.toList_some, Option.toList_none, List.cons_append, List.nil_append, true_or, or_true, if_true, if_false, i10, i01, Bool.false_eq_true, Nat.le_refl, and_self]
          rfl
        · simp only [s223_13, s223_17, s223_25, oob_nI (show 0 < 5 by omega) (by decide), clN (show 0 ≤ 100000 by omega), r0, eqK hc (show 104 ≤ 1000 by omega), h, add1N, Option.bind_some, Option.toList_some, Option.toList_none, List.cons_append, List.nil_append, true_or, or_true, if_true, if_false, i10, i01, Bool.false_eq_true]
          rw [ih']
          simp [Ne.symm h]
      · by_cases h : 116 = c
        · subst h
          simp only [s223_13, s223_17, s223_22, oob_nI (show 1 < 5 by omega) (by decide), clN (show 1 ≤ 100000 by omega), r1, Option.bind_some, Option.toList_some, Option.toList_none, List.cons_append, List.nil_append, true_or, or_true, if_true, if_false, i10, i01, Bool.false_eq_true]
          rfl
        · simp only [s223_13, s223_17, s223_25, oob_nI (show 1 < 5 by omega) (by decide), clN (show 1 ≤ 100000 by omega), r1, eqK hc (show 116 ≤ 1000 by omega), h, add1N, Option.bind_some, Option.toList_some, Option.toList_none, List.cons_append, List.nil_append, true_or, or_true, if_true, if_false, i10, i01, Bool.false_eq_true]
          rw [ih']
          simp [Ne.symm h]
      · by_cases h : 109 = c
        · subst h
          simp only [s223_13, s223_17, s223_22, oob_nI (show 2 < 5 by omega) (by decide), clN (show 2 ≤ 100000 by omega), r2, Option.bind_some, Option.toList_some, Option.toList_none, List.cons_append, List.nil_append, true_or, or_true, if_true, if_false, i10, i01, Bool.false_eq_true]
          rfl
        · simp only [s223_13, s223_17, s223_25, oob_nI (show 2 < 5 by omega) (by decide), clN (show 2 ≤ 100000 by omega), r2, eqK hc (show 109 ≤ 1000 by omega), h, add1N, Option.bind_some, Option.toList_some, Option.toList_none, List.cons_append, List.nil_append, true_or, or_true, if_true, if_false, i10, i01, Bool.false_eq_true]
          rw [ih']
          simp [Ne.symm h]
      · by_cases h : 115 = c
        · subst h
          simp only [s223_13, s223_17, s223_22, oob_nI (show 3 < 5 by omega) (by decide), clN (show 3 ≤ 100000 by omega), r3, Option.bind_some, Option.toList_some, Option.toList_none, List.cons_append, List.nil_append, true_or, or_true, if_true, if_false, i10, i01, Bool.false_eq_true]
          rfl
        · simp only [s223_13, s223_17, s223_25, oob_nI (show 3 < 5 by omega) (by decide), clN (show 3 ≤ 100000 by omega), r3, eqK hc (show 115 ≤ 1000 by omega), h, add1N, Option.bind_some, Option.toList_some, Option.toList_none, List.cons_append, List.nil_append, true_or, or_true, if_true, if_false, i10, i01, Bool.false_eq_true]
          rw [ih']
          simp [Ne.symm h]
      · by_cases h : 102 = c
        · subst h
          simp only [s223_13, s223_17, s223_22, oob_nI (show 4 < 5 by omega) (by decide), clN (show 4 ≤ 100000 by omega), r4, Option.bind_some, Option.toList_some, Option.toList_none, List.cons_append, List.nil_append, true_or, or_true, if_true, if_false, i10, i01, Bool.false_eq_true]
          rfl
        · simp only [s223_13, s223_17, s223_25, oob_nI (show 4 < 5 by omega) (by decide), clN (show 4 ≤ 100000 by omega), r4, eqK hc (show 102 ≤ 1000 by omega), h, add1N, Option.bind_some, Option.toList_some, Option.toList_none, List.cons_append, List.nil_append, true_or, or_true, if_true, if_false, i10, i01, Bool.false_eq_true]
          rw [ih']
          simp [Ne.symm h]
  have := key 5 0 (by omega)
  simp only [Nat.zero_le, true_and] at this
  rw [s223_e, s223_0, i8 c hc]
  exact this
theorem c_kindNamed {c : Nat} (hc : c < 127) : call (d + 5) 31 [vI (nI c)] σ = some (some (vI (en (kd c))), σ) := by
  have x1 : ¬ (0 : Int32) < 0 := by decide
  have x2 : ¬ (5 : Int32) < 5 := by decide
  have x3 : (0 : Int32) < 5 := by decide
  simp only [s31_e, s31_0, s31_7, s216_e, s216_0, s216_6, s217_e, s217_0, s217_4, s217_7, s217_17, s217_20, s217_23, s217_33, s217_36, s221_e, s221_0, s221_4, s221_7, s221_9, s221_27, s221_29, s221_36, u16 c hc, c_isLatin1, c_length, c_canEncode hc, c_indexOfChar hc, x1, x2, x3, Option.bind_some, Option.toList_some, Option.toList_none, List.cons_append, List.nil_append, true_or, or_true, if_true, if_false, i10, i01, Bool.false_eq_true]
theorem lt48 : ∀ c, c < 127 → ((nI c < 48) = (c < 48)) := fun c hc => by rw [show (48 : Int32) = nI 48 from rfl, ltN (by omega) (by omega)]
theorem c_digitOf {c : Nat} (hc : c < 127) : call d 32 [vI (nI c)] σ = some (some (vI (en (dg c))), σ) := by
  have e2 : ((57 : Int32) < nI c) = (57 < c) := by rw [show (57 : Int32) = nI 57 from rfl, ltN (by omega) (by omega)]
  unfold dg
  by_cases h1 : c < 48
  · rw [if_neg (by omega)]
    simp only [s32_e, s32_0, s32_6, s32_12, s32_19, s32_20, lt48 c hc, h1, Option.bind_some, Option.toList_some, Option.toList_none, List.cons_append, List.nil_append, true_or, or_true, if_true, if_false, i10, i01, Bool.false_eq_true]
    rfl
  · by_cases h2 : 57 < c
    · rw [if_neg (by omega)]
      simp only [s32_e, s32_0, s32_6, s32_12, s32_19, s32_20, lt48 c hc, h1, e2, h2, Option.bind_some, Option.toList_some, Option.toList_none, List.cons_append, List.nil_append, true_or, or_true, if_true, if_false, i10, i01, Bool.false_eq_true]
      rfl
    · rw [if_pos (by omega)]
      have e3 : nI c - 48 = nI (c - 48) := by rw [show (48 : Int32) = nI 48 from rfl, pk_sub (by omega)]
      simp only [s32_e, s32_0, s32_6, s32_12, s32_19, s32_20, lt48 c hc, h1, e2, h2, e3, Option.bind_some, Option.toList_some, Option.toList_none, List.cons_append, List.nil_append, true_or, or_true, if_true, if_false, i10, i01, Bool.false_eq_true]
      rfl
/-- the page: so many letters, these -/
def PgAt (σ : St) (L : Nat) (p : Nat → Nat) : Prop := ar σ 2 0 1 = nI L ∧ L ≤ 38 ∧ ∀ j, j < L → ar σ 10 0 j = nI (p j) ∧ 1 ≤ p j ∧ p j < 127
variable {L : Nat} {p : Nat → Nat}
theorem c_isFull (h : PgAt σ L p) : call d 15 [vR 2 0] σ = some (some (vI (if L = 38 then 1 else 0)), σ) := by
  have e1 : (nI L < 38) = (L < 38) := by rw [show (38 : Int32) = nI 38 from rfl, ltN (by have := h.2.1; omega) (by omega)]
  by_cases c1 : L = 38
  · have c2 : ¬ L < 38 := by omega
    rw [if_pos c1]
    simp only [s15_e, s15_0, s15_9, s15_13, s15_14, h.1, e1, c2, Option.bind_some, Option.toList_some, Option.toList_none, List.cons_append, List.nil_append, true_or, or_true, if_true, if_false, i10, i01, Bool.false_eq_true]
  · have c2 : L < 38 := by have := h.2.1; omega
    simp only [s15_e, s15_0, s15_9, s15_13, s15_14, h.1, e1, c2, c1, Option.bind_some, Option.toList_some, Option.toList_none, List.cons_append, List.nil_append, true_or, or_true, if_true, if_false, i10, i01, Bool.false_eq_true]
theorem c_pageSize (h : PgAt σ L p) : call d 16 [vR 2 0] σ = some (some (vI (nI L)), σ) := by
  simp only [s16_e, s16_0, h.1]
theorem c_letterAt {k : Nat} (h : PgAt σ L p) (hk : k < L) : call d 30 [vR 2 0, vI (nI k)] σ = some (some (vI (nI (p k))), σ) := by
  have h38 := h.2.1
  simp only [s30_e, s30_0, s30_4, s30_12, s30_18, s30_21, s30_22, h.1, lt0N (show k ≤ 100000 by omega), ltn hk (by omega), oob_nI (show k < 38 by omega) (by decide), clN (show k ≤ 100000 by omega), (h.2.2 k hk).1, Option.bind_some, Option.toList_some, Option.toList_none, List.cons_append, List.nil_append, true_or, or_true, if_true, if_false, i10, i01, Bool.false_eq_true]
/-- whether a letter of the houses fits at a place -/
def fitH (p : Nat → Nat) (k : Nat) : Bool := if k % 3 = 0 then (kd (p k)).isSome else if k % 3 = 1 then (dg (p k)).isSome else decide ((p k = 44 ∧ k / 3 + 1 < 6) ∨ (p k = 59 ∧ 3 ≤ k / 3 + 1))
theorem modN {k : Nat} (hk : k ≤ 1000) : nI k - nI k / 3 * 3 = nI (k % 3) := by
  rw [show (3 : Int32) = nI 3 from rfl, pk_div (by omega) (by omega) (by omega), pk_mul, pk_sub (by omega)]
  congr 1
  omega
theorem divN {k : Nat} (hk : k ≤ 1000) : nI k / 3 = nI (k / 3) := by
  rw [show (3 : Int32) = nI 3 from rfl, pk_div (by omega) (by omega) (by omega)]
theorem toI0 {x : Nat} (hx : x ≤ 1000) : ((nI x).toInt = 0) = (x = 0) := by
  exact (tI (show (nI 0).toInt = 0 from rfl)).trans (eqN (by omega) (by omega))
theorem toI1 {x : Nat} (hx : x ≤ 1000) : ((nI x).toInt = 1) = (x = 1) := by
  exact (tI (show (nI 1).toInt = 1 from rfl)).trans (eqN (by omega) (by omega))
theorem c_mayFollow {c k : Nat} (hc : c < 127) (hk : k ≤ 1000) : call d 22 [vI (nI c), vI (nI k)] σ = some (some (vI (if (c = 44 ∧ k < 6) ∨ (c = 59 ∧ 3 ≤ k) then 1 else 0)), σ) := by
  have e1 : (nI c = 44) = (c = 44) := by rw [show (44 : Int32) = nI 44 from rfl, eqN (by omega) (by omega)]
  have e2 : (nI c = 59) = (c = 59) := by rw [show (59 : Int32) = nI 59 from rfl, eqN (by omega) (by omega)]
  have e3 : (nI k < 6) = (k < 6) := by rw [show (6 : Int32) = nI 6 from rfl, ltN (by omega) (by omega)]
  have e4 : (nI k < 3) = (k < 3) := by rw [show (3 : Int32) = nI 3 from rfl, ltN (by omega) (by omega)]
  by_cases h1 : c = 44
  · have e1' := e1.trans (eq_true h1)
    by_cases h2 : k < 6
    · rw [if_pos (Or.inl ⟨h1, h2⟩)]
      simp only [s22_e, s22_0, s22_6, s22_12, s22_18, s22_23, s22_27, s22_28, e1', e3, h2, Option.bind_some, Option.toList_some, Option.toList_none, List.cons_append, List.nil_append, true_or, or_true, if_true, if_false, i10, i01, Bool.false_eq_true]
    · rw [if_neg (by omega)]
      have e2' := e2.trans (eq_false (show ¬ c = 59 by omega))
      simp only [s22_e, s22_0, s22_6, s22_12, s22_18, s22_23, s22_27, s22_28, e1', e2', e3, h2, Option.bind_some, Option.toList_some, Option.toList_none, List.cons_append, List.nil_append, true_or, or_true, if_true, if_false, i10, i01, Bool.false_eq_true]
  · have e1' := e1.trans (eq_false h1)
    by_cases h3 : c = 59
    · have e2' := e2.trans (eq_true h3)
      by_cases h4 : k < 3
      · rw [if_neg (by omega)]
        simp only [s22_e, s22_0, s22_6, s22_12, s22_18, s22_23, s22_27, s22_28, e1', e2', e4, h4, Option.bind_some, Option.toList_some, Option.toList_none, List.cons_append, List.nil_append, true_or, or_true, if_true, if_false, i10, i01, Bool.false_eq_true]
      · rw [if_pos (by omega)]
        simp only [s22_e, s22_0, s22_6, s22_12, s22_18, s22_23, s22_27, s22_28, e1', e2', e4, h4, Option.bind_some, Option.toList_some, Option.toList_none, List.cons_append, List.nil_append, true_or, or_true, if_true, if_false, i10, i01, Bool.false_eq_true]
    · rw [if_neg (by omega)]
      have e2' := e2.trans (eq_false h3)
      simp only [s22_e, s22_0, s22_6, s22_12, s22_18, s22_23, s22_27, s22_28, e1', e2', Option.bind_some, Option.toList_some, Option.toList_none, List.cons_append, List.nil_append, true_or, or_true, if_true, if_false, i10, i01, Bool.false_eq_true]
theorem c_fitsHouses {k : Nat} (h : PgAt σ L p) (hk : k < L) : call (d + 6) 21 [vR 2 0, vI (nI k)] σ = some (some (vI (if fitH p k = true then 1 else 0)), σ) := by
  have h38 := h.2.1
  obtain ⟨hp, -, hp2⟩ := h.2.2 k hk
  have i1 := oob_nI (show k < 38 by omega) (by decide)
  have j1 := clN (show k ≤ 100000 by omega)
  have t0 := toI0 (show k % 3 ≤ 1000 by omega)
  have t1 := toI1 (show k % 3 ≤ 1000 by omega)
  unfold fitH
  by_cases m0 : k % 3 = 0
  · rw [if_pos m0]
    have t0' := t0.trans (eq_true m0)
    cases hkd : kd (p k) with
    | none => simp only [s21_e, s21_0, s21_6, s21_36, s21_40, s21_44, s21_48, s21_49, s21_50, s21_54, s21_58, s21_62, s21_63, s21_64, s21_73, i1, j1, hp, modN (show k ≤ 1000 by omega), t0', c_kindNamed hp2, hkd, en_none, Option.isSome_none, Option.bind_some, Option.toList_some, Option.toList_none, List.cons_append, List.nil_append, true_or, or_true, if_true, if_false, i10, i01, Bool.false_eq_true]
    | some v =>
      have hv := kd_lt hkd
      simp only [s21_e, s21_0, s21_6, s21_36, s21_40, s21_44, s21_48, s21_49, s21_50, s21_54, s21_58, s21_62, s21_63, s21_64, s21_73, i1, j1, hp, modN (show k ≤ 1000 by omega), t0', c_kindNamed hp2, hkd, en_some, n1N (show v ≤ 100000 by omega), Option.isSome_some, Option.bind_some, Option.toList_some, Option.toList_none, List.cons_append, List.nil_append, true_or, or_true, if_true, if_false, i10, i01, Bool.false_eq_true]
  · rw [if_neg m0]
    have t0' := t0.trans (eq_false m0)
    by_cases m1 : k % 3 = 1
    · rw [if_pos m1]
      have t1' := t1.trans (eq_true m1)
      cases hkd : dg (p k) with
      | none =>
        simp only [s21_e, s21_0, s21_6, s21_36, s21_40, s21_44, s21_48, s21_49, s21_50, s21_54, s21_58, s21_62, s21_63, s21_64, s21_73, i1, j1, hp, modN (show k ≤ 1000 by omega), t0', t1', c_digitOf hp2, hkd, en_none, Option.isSome_none, Option.bind_some, Option.toList_some, Option.toList_none, List.cons_append, List.nil_append, true_or, or_true, if_true, if_false, i10, i01, Bool.false_eq_true]
      | some v =>
        have hv := (dg_lt hkd).1
        simp only [s21_e, s21_0, s21_6, s21_36, s21_40, s21_44, s21_48, s21_49, s21_50, s21_54, s21_58, s21_62, s21_63, s21_64, s21_73, i1, j1, hp, modN (show k ≤ 1000 by omega), t0', t1', c_digitOf hp2, hkd, en_some, n1N (show v ≤ 100000 by omega), Option.isSome_some, Option.bind_some, Option.toList_some, Option.toList_none, List.cons_append, List.nil_append, true_or, or_true, if_true, if_false, i10, i01, Bool.false_eq_true]
    · rw [if_neg m1]
      have e5 : nI k / 3 + 1 = nI (k / 3 + 1) := by rw [divN (by omega), add1N]
      by_cases c1 : (p k = 44 ∧ k / 3 + 1 < 6) ∨ (p k = 59 ∧ 3 ≤ k / 3 + 1)
      · rw [if_pos (decide_eq_true c1)]
        simp only [s21_e, s21_0, s21_6, s21_36, s21_40, s21_44, s21_48, s21_49, s21_50, s21_54, s21_58, s21_62, s21_63, s21_64, s21_73, i1, j1, hp, e5, modN (show k ≤ 1000 by omega), toI0 (show k % 3 ≤ 1000 by omega), toI1 (show k % 3 ≤ 1000 by omega), m0, m1, c_mayFollow hp2 (show k / 3 + 1 ≤ 1000 by omega), if_pos c1, Option.bind_some, Option.toList_some, Option.toList_none, List.cons_append, List.nil_append, true_or, or_true, if_true, if_false, i10, i01, Bool.false_eq_true]
      · rw [if_neg (by rw [decide_eq_true_eq]; exact c1)]
        simp only [s21_e, s21_0, s21_6, s21_36, s21_40, s21_44, s21_48, s21_49, s21_50, s21_54, s21_58, s21_62, s21_63, s21_64, s21_73, i1, j1, hp, e5, modN (show k ≤ 1000 by omega), toI0 (show k % 3 ≤ 1000 by omega), toI1 (show k % 3 ≤ 1000 by omega), m0, m1, c_mayFollow hp2 (show k / 3 + 1 ≤ 1000 by omega), if_neg c1, Option.bind_some, Option.toList_some, Option.toList_none, List.cons_append, List.nil_append, true_or, or_true, if_true, if_false, i10, i01, Bool.false_eq_true]
/-- whether a letter of the angers fits at a place, the houses' end known -/
def fitA (p : Nat → Nat) (e k : Nat) : Bool := match dg (p k) with
  | none => false
  | some g => if 18 ≤ k - e - 1 then false else if (k - e - 1) % 3 = 0 then decide (g < e / 3 + 1) else if (k - e - 1) % 3 = 1 then decide (g < e / 3 + 1 ∧ p k ≠ p (k - 1)) else decide (0 < g)
theorem fitA_n {p : Nat → Nat} {e k : Nat} (h : dg (p k) = none) : fitA p e k = false := by
  simp only [fitA, h]
theorem fitA_s {p : Nat → Nat} {e k g : Nat} (h : dg (p k) = some g) : fitA p e k = if 18 ≤ k - e - 1 then false else if (k - e - 1) % 3 = 0 then decide (g < e / 3 + 1) else if (k - e - 1) % 3 = 1 then decide (g < e / 3 + 1 ∧ p k ≠ p (k - 1)) else decide (0 < g) := by
  simp only [fitA, h]
theorem sub2N {k e : Nat} (h : e < k) : nI k - nI e - 1 = nI (k - e - 1) := by
  rw [pk_sub (by omega), show (1 : Int32) = nI 1 from rfl, pk_sub (by omega)]
theorem c_fitsAngers {k e : Nat} (h : PgAt σ L p) (hk : k < L) (he : e < k) : call (d + 1) 23 [vR 2 0, vI (nI k), vI (nI e)] σ = some (some (vI (if fitA p e k = true then 1 else 0)), σ) := by
  have h38 := h.2.1
  obtain ⟨hp, -, hp2⟩ := h.2.2 k hk
  have i1 := oob_nI (show k < 38 by omega) (by decide)
  have j1 := clN (show k ≤ 100000 by omega)
  have e18 : (nI (k - e - 1) < 18) = (k - e - 1 < 18) := by rw [show (18 : Int32) = nI 18 from rfl, ltN (by omega) (by omega)]
  have e5 : nI e / 3 + 1 = nI (e / 3 + 1) := by rw [divN (by omega), add1N]
  have t0 := toI0 (show (k - e - 1) % 3 ≤ 1000 by omega)
  have t1 := toI1 (show (k - e - 1) % 3 ≤ 1000 by omega)
  cases hkd : dg (p k) with
  | none =>
    rw [fitA_n hkd]
    simp only [s23_e, s23_0, s23_12, s23_15, s23_23, s23_29, s23_31, s23_68, s23_75, s23_79, s23_80, s23_81, s23_88, s23_93, s23_100, s23_103, s23_107, s23_108, s23_109, s23_114, s23_118, s23_119, i1, j1, hp, sub2N he, c_digitOf hp2, hkd, en_none, Option.bind_some, Option.toList_some, Option.toList_none, List.cons_append, List.nil_append, true_or, or_true, if_true, if_false, i10, i01, Bool.false_eq_true]
  | some g =>
    have hg := (dg_lt hkd).1
    rw [fitA_s hkd]
    have elt : (nI g < nI (e / 3 + 1)) = (g < e / 3 + 1) := ltN (by omega) (by omega)
    by_cases c18 : 18 ≤ k - e - 1
    · rw [if_pos c18]
      simp only [s23_e, s23_0, s23_12, s23_15, s23_23, s23_29, s23_31, s23_68, s23_75, s23_79, s23_80, s23_81, s23_88, s23_93, s23_100, s23_103, s23_107, s23_108, s23_109, s23_114, s23_118, s23_119, i1, j1, hp, sub2N he, c_digitOf hp2, hkd, en_some, n1N (show g ≤ 100000 by omega), e18, show ¬ k - e - 1 < 18 by omega, Option.bind_some, Option.toList_some, Option.toList_none, List.cons_append, List.nil_append, true_or, or_true, if_true, if_false, i10, i01, Bool.false_eq_true]
    · rw [if_neg c18]
      have c18' : k - e - 1 < 18 := by omega
      by_cases m0 : (k - e - 1) % 3 = 0
      · rw [if_pos m0]
        have t0' := t0.trans (eq_true m0)
        by_cases c1 : g < e / 3 + 1
        · simp only [s23_e, s23_0, s23_12, s23_15, s23_23, s23_29, s23_31, s23_68, s23_75, s23_79, s23_80, s23_81, s23_88, s23_93, s23_100, s23_103, s23_107, s23_108, s23_109, s23_114, s23_118, s23_119, i1, j1, hp, sub2N he, c_digitOf hp2, hkd, en_some, n1N (show g ≤ 100000 by omega), e18, c18', modN (show k - e - 1 ≤ 1000 by omega), t0', e5, elt, c1, Option.bind_some, Option.toList_some, Option.toList_none, List.cons_append, List.nil_append, true_or, or_true, if_true, if_false, i10, i01, Bool.false_eq_true, decide_true]
        · simp only [s23_e, s23_0, s23_12, s23_15, s23_23, s23_29, s23_31, s23_68, s23_75, s23_79, s23_80, s23_81, s23_88, s23_93, s23_100, s23_103, s23_107, s23_108, s23_109, s23_114, s23_118, s23_119, i1, j1, hp, sub2N he, c_digitOf hp2, hkd, en_some, n1N (show g ≤ 100000 by omega), e18, c18', modN (show k - e - 1 ≤ 1000 by omega), t0', e5, elt, c1, Option.bind_some, Option.toList_some, Option.toList_none, List.cons_append, List.nil_append, true_or, or_true, if_true, if_false, i10, i01, Bool.false_eq_true, decide_false]
      · rw [if_neg m0]
        have t0' := t0.trans (eq_false m0)
        by_cases m1 : (k - e - 1) % 3 = 1
        · rw [if_pos m1]
          have t1' := t1.trans (eq_true m1)
          have hk1 : nI k - 1 = nI (k - 1) := by rw [show (1 : Int32) = nI 1 from rfl, pk_sub (by omega)]
          obtain ⟨hpp, -, hpp2⟩ := h.2.2 (k - 1) (by omega)
          by_cases c1 : g < e / 3 + 1
          · by_cases c2 : p k = p (k - 1)
            · rw [if_neg (by simp [c2])]
              simp only [s23_e, s23_0, s23_12, s23_15, s23_23, s23_29, s23_31, s23_68, s23_75, s23_79, s23_80, s23_81, s23_88, s23_93, s23_100, s23_103, s23_107, s23_108, s23_109, s23_114, s23_118, s23_119, i1, j1, hp, sub2N he, c_digitOf hp2, hkd, en_some, n1N (show g ≤ 100000 by omega), e18, c18', modN (show k - e - 1 ≤ 1000 by omega), t0', t1', e5, elt, c1, hk1, c_letterAt h hk, c_letterAt h (show k - 1 < L by omega), (eqN (show p k ≤ 100000 by omega) (show p (k - 1) ≤ 100000 by omega)).trans (eq_true c2), Option.bind_some, Option.toList_some, Option.toList_none, List.cons_append, List.nil_append, true_or, or_true, if_true, if_false, i10, i01, Bool.false_eq_true]
            · rw [if_pos (by simp [c1, c2])]
              simp only [s23_e, s23_0, s23_12, s23_15, s23_23, s23_29, s23_31, s23_68, s23_75, s23_79, s23_80, s23_81, s23_88, s23_93, s23_100, s23_103, s23_107, s23_108, s23_109, s23_114, s23_118, s23_119, i1, j1, hp, sub2N he, c_digitOf hp2, hkd, en_some, n1N (show g ≤ 100000 by omega), e18, c18', modN (show k - e - 1 ≤ 1000 by omega), t0', t1', e5, elt, c1, hk1, c_letterAt h hk, c_letterAt h (show k - 1 < L by omega), eqN (show p k ≤ 100000 by omega) (show p (k - 1) ≤ 100000 by omega), c2, Option.bind_some, Option.toList_some, Option.toList_none, List.cons_append, List.nil_append, true_or, or_true, if_true, if_false, i10, i01, Bool.false_eq_true]
          · rw [if_neg (by simp [c1])]
            simp only [s23_e, s23_0, s23_12, s23_15, s23_23, s23_29, s23_31, s23_68, s23_75, s23_79, s23_80, s23_81, s23_88, s23_93, s23_100, s23_103, s23_107, s23_108, s23_109, s23_114, s23_118, s23_119, i1, j1, hp, sub2N he, c_digitOf hp2, hkd, en_some, n1N (show g ≤ 100000 by omega), e18, c18', modN (show k - e - 1 ≤ 1000 by omega), t0', t1', e5, elt, c1, Option.bind_some, Option.toList_some, Option.toList_none, List.cons_append, List.nil_append, true_or, or_true, if_true, if_false, i10, i01, Bool.false_eq_true]
        · rw [if_neg m1]
          have t1' := t1.trans (eq_false m1)
          have e0 : ((0 : Int32) < nI g) = (0 < g) := by rw [show (0 : Int32) = nI 0 from rfl, ltN (by omega) (by omega)]
          by_cases c1 : 0 < g
          · simp only [s23_e, s23_0, s23_12, s23_15, s23_23, s23_29, s23_31, s23_68, s23_75, s23_79, s23_80, s23_81, s23_88, s23_93, s23_100, s23_103, s23_107, s23_108, s23_109, s23_114, s23_118, s23_119, i1, j1, hp, sub2N he, c_digitOf hp2, hkd, en_some, n1N (show g ≤ 100000 by omega), e18, c18', modN (show k - e - 1 ≤ 1000 by omega), t0', t1', e0, c1, Option.bind_some, Option.toList_some, Option.toList_none, List.cons_append, List.nil_append, true_or, or_true, if_true, if_false, i10, i01, Bool.false_eq_true, decide_true]
          · simp only [s23_e, s23_0, s23_12, s23_15, s23_23, s23_29, s23_31, s23_68, s23_75, s23_79, s23_80, s23_81, s23_88, s23_93, s23_100, s23_103, s23_107, s23_108, s23_109, s23_114, s23_118, s23_119, i1, j1, hp, sub2N he, c_digitOf hp2, hkd, en_some, n1N (show g ≤ 100000 by omega), e18, c18', modN (show k - e - 1 ≤ 1000 by omega), t0', t1', e0, c1, Option.bind_some, Option.toList_some, Option.toList_none, List.cons_append, List.nil_append, true_or, or_true, if_true, if_false, i10, i01, Bool.false_eq_true, decide_false]
/-- how far a page fits, and where its houses end -/
def fits (p : Nat → Nat) (e : Option Nat) (k : Nat) : Bool := match e with
  | none => fitH p k
  | some e => fitA p e k
def flt (p : Nat → Nat) : Nat → Option Nat → Nat → Nat × Option Nat
  | 0, e, k => (k, e)
  | m + 1, e, k => if fits p e k = true then flt p m (if p k = 59 then some k else e) (k + 1) else (k, e)
theorem l_faultPlace (h : PgAt σ L p) : ∀ m e k (v3 : IV), k + m = L → (∀ x, e = some x → x < k) → exec (d + 7) 19 4 [vR 2 0, vI (en e), vI (nI k), v3] [] σ = some (some (vI (nI (flt p m e k).1)), σ) := by
  have h38 := h.2.1
  intro m
  induction m with
  | zero =>
    intro e k v3 hk _
    have ek : k = L := by omega
    subst ek
    rw [s19_4, h.1, if_neg nlt, s19_57, h.1]
    rfl
  | succ m ih =>
    intro e k v3 hk he
    obtain ⟨hp, -, hp2⟩ := h.2.2 k (by omega)
    have i1 := oob_nI (show k < 38 by omega) (by decide)
    have j1 := clN (show k ≤ 100000 by omega)
    have e59 : (nI (p k) = 59) = (p k = 59) := by rw [show (59 : Int32) = nI 59 from rfl, eqN (by omega) (by omega)]
    have e1 : (en e = -1) = (e = none) := en_m1 (fun b hb => by have := he b hb; omega)
    rw [s19_4, h.1, if_pos (ltn (show k < L by omega) (by omega)), flt]
    have first : ∀ X, (∀ v3, exec (d + 7) 19 31 [vR 2 0, vI (en e), vI (nI k), v3] [vI (if fits p e k = true then 1 else 0)] σ = X) → exec (d + 7) 19 12 [vR 2 0, vI (en e), vI (nI k), v3] [] σ = X := by
      intro X hX
      cases e with
      | none =>
        have := hX v3
        rw [en_none] at this ⊢
        simp only [s19_12, s19_17, s19_22, c_fitsHouses h (show k < L by omega), Option.bind_some, Option.toList_some, Option.toList_none, List.cons_append, List.nil_append, true_or, or_true, if_true, if_false, i10, i01, Bool.false_eq_true]
        exact this
      | some x =>
        have := hX v3
        rw [en_some] at this ⊢
        have hx := he x rfl
        simp only [s19_12, s19_25, n1N (show x ≤ 100000 by omega), c_fitsAngers h (show k < L by omega) hx, Option.bind_some, Option.toList_some, Option.toList_none, List.cons_append, List.nil_append, true_or, or_true, if_true, if_false, i10, i01, Bool.false_eq_true]
        exact this
    refine first _ (fun v3 => ?_)
    cases hf : fits p e k with
    | false =>
      simp only [s19_31, s19_36, Option.bind_some, Option.toList_some, Option.toList_none, List.cons_append, List.nil_append, true_or, or_true, if_true, if_false, i10, i01, Bool.false_eq_true]
    | true =>
      by_cases c1 : p k = 59
      · simp only [s19_31, s19_38, s19_44, s19_49, s19_51, i1, j1, hp, e59, c1, Option.bind_some, Option.toList_some, Option.toList_none, List.cons_append, List.nil_append, true_or, or_true, if_true, if_false, i10, i01, Bool.false_eq_true, add1N]
        exact ih (some k) (k + 1) _ (by omega) (fun x hx => by cases hx; omega)
      · simp only [s19_31, s19_38, s19_44, s19_51, i1, j1, hp, e59, c1, Option.bind_some, Option.toList_some, Option.toList_none, List.cons_append, List.nil_append, true_or, or_true, if_true, if_false, i10, i01, Bool.false_eq_true, add1N]
        exact ih e (k + 1) _ (by omega) (fun x hx => by have := he x hx; omega)
theorem c_faultPlace (h : PgAt σ L p) : call (d + 7) 19 [vR 2 0] σ = some (some (vI (nI (flt p L none 0).1)), σ) := by
  rw [s19_e, s19_0]
  exact l_faultPlace h L none 0 vN (by omega) (fun x hx => by cases hx)
/-- the first end of houses -/
def hse (p : Nat → Nat) : Nat → Nat → Option Nat
  | 0, _ => none
  | m + 1, k => if p k = 59 then some k else hse p m (k + 1)
theorem c_housesEnd (h : PgAt σ L p) : call d 24 [vR 2 0] σ = some (some (vI (en (hse p L 0))), σ) := by
  have h38 := h.2.1
  rw [s24_e, s24_0]
  have key : ∀ m k, k + m = L → exec d 24 2 [vR 2 0, vI (nI k)] [] σ = some (some (vI (en (hse p m k))), σ) := by
    intro m
    induction m with
    | zero =>
      intro k hk
      have ek : k = L := by omega
      subst ek
      rw [s24_2, h.1, if_neg nlt, s24_29]
      rfl
    | succ m ih =>
      intro k hk
      obtain ⟨hp, -, hp2⟩ := h.2.2 k (by omega)
      have i1 := oob_nI (show k < 38 by omega) (by decide)
      have j1 := clN (show k ≤ 100000 by omega)
      have e59 : (nI (p k) = 59) = (p k = 59) := by rw [show (59 : Int32) = nI 59 from rfl, eqN (by omega) (by omega)]
      rw [s24_2, h.1, if_pos (ltn (show k < L by omega) (by omega)), hse]
      by_cases c1 : p k = 59
      · simp only [s24_10, s24_16, s24_21, i1, j1, hp, e59, c1, Option.bind_some, Option.toList_some, Option.toList_none, List.cons_append, List.nil_append, true_or, or_true, if_true, if_false, i10, i01, Bool.false_eq_true]
        rfl
      · simp only [s24_10, s24_16, s24_23, i1, j1, hp, e59, c1, Option.bind_some, Option.toList_some, Option.toList_none, List.cons_append, List.nil_append, true_or, or_true, if_true, if_false, i10, i01, Bool.false_eq_true, add1N]
        exact ih (k + 1) (by omega)
  exact key L 0 (by omega)
end PG

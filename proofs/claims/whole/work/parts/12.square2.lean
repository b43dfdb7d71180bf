/-! Square: what is told of houses. -/
section SQ2
variable {d : Nat} {σ : St} {q n : Nat} {F : Nat → Option Nat}
theorem c_frontersOf {a : Nat} (hn : ar σ 5 q 7 = nI n) (h6 : n ≤ 6) (hF : ∀ a, a < n → ar σ 13 q a = en (F a)) (hv : ∀ a b, F a = some b → b < n) (ha : a < 6) : call d 59 [vR 5 q, vI (nI a)] σ = some (some (vI (nI (fbit F a n))), σ) := by
  rw [s59_e, s59_0]
  refine down0 (Pr := fun b => exec d 59 4 [vR 5 q, vI (nI a), vI (nI (fbit F a b)), vI (nI b)] [] σ = some (some (vI (nI (fbit F a n))), σ)) n (fun b hb ih => ?_) ?_
  · have hB := fbit_lt (F := F) (a := a) (n := b) (by omega)
    have e3 := bits_or _ hB b (by omega)
    rw [s59_4, hn, if_pos (ltn hb (by omega))]
    by_cases c1 : F b = some a
    · rw [fbit, if_pos c1] at ih
      simp only [s59_0, s59_12, s59_18, s59_22, s59_28, s59_34, oob_nI (show b < 6 by omega) (by decide), cl6 (show b < 6 by omega), hF b hb, c1, en_some, e3, add1N, Option.bind_some, Option.toList_some, Option.toList_none, List.cons_append, List.nil_append, true_or, or_true, if_true, if_false, i10, i01, Bool.false_eq_true]
      exact ih
    · rw [fbit, if_neg c1] at ih
      simp only [s59_0, s59_12, s59_18, s59_22, s59_28, s59_34, oob_nI (show b < 6 by omega) (by decide), cl6 (show b < 6 by omega), hF b hb, en_eq (o := F b) (show a ≤ 100000 by omega) (fun c h => by have := hv _ _ h; omega), c1, add1N, Option.bind_some, Option.toList_some, Option.toList_none, List.cons_append, List.nil_append, true_or, or_true, if_true, if_false, i10, i01, Bool.false_eq_true]
      exact ih
  · rw [s59_4, hn, if_neg nlt, s59_34]
theorem c_angersOf {a : Nat} (hn : ar σ 5 q 7 = nI n) (h6 : n ≤ 6) (ha : a < 6) : call (d + 1) 60 [vR 5 q, vI (nI a)] σ = some (some (vI (sm (fun b => ar σ 16 q (6 * a + b)) n)), σ) := by
  rw [s60_e, s60_0]
  refine down0 (Pr := fun b => exec (d + 1) 60 4 [vR 5 q, vI (nI a), vI (sm (fun b => ar σ 16 q (6 * a + b)) b), vI (nI b)] [] σ = some (some (vI (sm (fun b => ar σ 16 q (6 * a + b)) n)), σ)) n (fun b hb ih => ?_) ?_
  · have i1 : oob (nI (6 * a + b)) 36 = false := oob_nI (by omega) (by omega)
    have j1 : (nI (6 * a + b)).toNatClampNeg = 6 * a + b := clN (by omega)
    rw [s60_4, hn, if_pos (ltn hb (by omega))]
    simp only [s60_0, s60_12, s60_22, s60_23, s60_31, c_cell, mul6N, addN, add1N, i1, j1, Option.bind_some, Option.toList_some, Option.toList_none, List.cons_append, List.nil_append, true_or, or_true, if_true, if_false, i10, i01, Bool.false_eq_true]
    exact ih
  · rw [s60_4, hn, if_neg nlt, s60_31]
theorem c_isStaring {a : Nat} (hn : ar σ 5 q 7 = nI n) (h6 : n ≤ 6) (hF : ∀ a, a < n → ar σ 13 q a = en (F a)) (hv : ∀ a b, F a = some b → b < n) (ha : a < n) : call (d + 1) 61 [vR 5 q, vI (nI a)] σ = some (some (vI (if star F a = true then 1 else 0)), σ) := by
  cases hf : F a with
  | none =>
    have hs : star F a = false := by unfold star; rw [hf]
    simp only [s61_e, s61_0, s61_6, s61_12, s61_15, s61_21, s61_25, s61_29, s61_30, oob_nI (show a < 6 by omega) (by decide), cl6 (show a < 6 by omega), hF a ha, hf, en_none, c_isHouse_f hn h6 (not_isH_m1 h6), hs, Option.bind_some, Option.toList_some, Option.toList_none, List.cons_append, List.nil_append, true_or, or_true, if_true, if_false, i10, i01, Bool.false_eq_true]
  | some b =>
    have hb := hv a b hf
    have hs : star F a = decide (F b = some a) := by unfold star; rw [hf]
    by_cases c1 : F b = some a
    · simp only [s61_e, s61_0, s61_6, s61_12, s61_15, s61_21, s61_25, s61_29, s61_30, oob_nI (show a < 6 by omega) (by decide), cl6 (show a < 6 by omega), oob_nI (show b < 6 by omega) (by decide), cl6 (show b < 6 by omega), hF a ha, hF b hb, hf, en_some, c_isHouse_t hn h6 hb, hs, c1, decide_true, Option.bind_some, Option.toList_some, Option.toList_none, List.cons_append, List.nil_append, true_or, or_true, if_true, if_false, i10, i01, Bool.false_eq_true]
    · simp only [s61_e, s61_0, s61_6, s61_12, s61_15, s61_21, s61_25, s61_29, s61_30, oob_nI (show a < 6 by omega) (by decide), cl6 (show a < 6 by omega), oob_nI (show b < 6 by omega) (by decide), cl6 (show b < 6 by omega), hF a ha, hF b hb, hf, en_some, c_isHouse_t hn h6 hb, hs, en_eq (o := F b) (show a ≤ 100000 by omega) (fun c h => by have := hv _ _ h; omega), c1, decide_false, Option.bind_some, Option.toList_some, Option.toList_none, List.cons_append, List.nil_append, true_or, or_true, if_true, if_false, i10, i01, Bool.false_eq_true]
theorem l_ringSize {a : Nat} (hn : ar σ 5 q 7 = nI n) (h6 : n ≤ 6) (hF : ∀ a, a < n → ar σ 13 q a = en (F a)) (hv : ∀ a b, F a = some b → b < n) (ha : a < n) : ∀ (m s x : Nat), s + m = n + 1 → x < n → exec (d + 1) 62 4 [vR 5 q, vI (nI a), vI (nI x), vI (nI s)] [] σ = some (some (vI (nI (rgo F a m s x))), σ) := by
  intro m
  induction m with
  | zero =>
    intro s x hs hx
    have e1 : nI n < nI s := ltn (by omega) (by omega)
    rw [s62_4, hn, if_pos e1, s62_51]
    rfl
  | succ m ih =>
    intro s x hs hx
    have e1 : ¬ nI n < nI s := by rw [ltN (by omega) (by omega)]; omega
    rw [s62_4, hn, if_neg e1]
    cases hf : F x with
    | none =>
      simp only [s62_0, s62_12, s62_18, s62_24, s62_27, s62_29, s62_34, s62_39, s62_43, s62_44, s62_45, s62_51, oob_nI (show x < 6 by omega) (by decide), cl6 (show x < 6 by omega), hF x hx, hf, en_none, c_isHouse_f hn h6 (not_isH_m1 h6), rgo, Option.bind_some, Option.toList_some, Option.toList_none, List.cons_append, List.nil_append, true_or, or_true, if_true, if_false, i10, i01, Bool.false_eq_true]
      rfl
    | some b =>
      have hb := hv x b hf
      by_cases c1 : b = a
      · subst c1
        have hlt : (nI s < 3) = (s < 3) := by rw [show (3 : Int32) = nI 3 from rfl, ltN (by omega) (by omega)]
        by_cases c2 : 3 ≤ s
        · have c3 : ¬ s < 3 := by omega
          simp only [s62_0, s62_12, s62_18, s62_24, s62_27, s62_29, s62_34, s62_39, s62_43, s62_44, s62_45, s62_51, oob_nI (show x < 6 by omega) (by decide), cl6 (show x < 6 by omega), hF x hx, hf, en_some, c_isHouse_t hn h6 hb, rgo, hlt, c3, c2, Option.bind_some, Option.toList_some, Option.toList_none, List.cons_append, List.nil_append, true_or, or_true, if_true, if_false, i10, i01, Bool.false_eq_true]
        · have c3 : s < 3 := by omega
          simp only [s62_0, s62_12, s62_18, s62_24, s62_27, s62_29, s62_34, s62_39, s62_43, s62_44, s62_45, s62_51, oob_nI (show x < 6 by omega) (by decide), cl6 (show x < 6 by omega), hF x hx, hf, en_some, c_isHouse_t hn h6 hb, rgo, hlt, c3, c2, Option.bind_some, Option.toList_some, Option.toList_none, List.cons_append, List.nil_append, true_or, or_true, if_true, if_false, i10, i01, Bool.false_eq_true]
          rfl
      · have e2 : ¬ nI b = nI a := by rw [eqN (by omega) (by omega)]; exact c1
        simp only [s62_0, s62_12, s62_18, s62_24, s62_27, s62_29, s62_34, s62_39, s62_43, s62_44, s62_45, s62_51, oob_nI (show x < 6 by omega) (by decide), cl6 (show x < 6 by omega), hF x hx, hf, en_some, c_isHouse_t hn h6 hb, rgo, e2, c1, add1N, Option.bind_some, Option.toList_some, Option.toList_none, List.cons_append, List.nil_append, true_or, or_true, if_true, if_false, i10, i01, Bool.false_eq_true]
        exact ih (s + 1) b (by omega) hb
theorem c_ringSize {a : Nat} (hn : ar σ 5 q 7 = nI n) (h6 : n ≤ 6) (hF : ∀ a, a < n → ar σ 13 q a = en (F a)) (hv : ∀ a b, F a = some b → b < n) (ha : a < n) : call (d + 1) 62 [vR 5 q, vI (nI a)] σ = some (some (vI (nI (rsz F n a))), σ) := by
  rw [s62_e, s62_0]
  exact l_ringSize hn h6 hF hv ha n 1 a (by omega) ha
theorem l_onLine {a k : Nat} (hn : ar σ 5 q 7 = nI n) (h6 : n ≤ 6) (hF : ∀ a, a < n → ar σ 13 q a = en (F a)) (hv : ∀ a b, F a = some b → b < n) (hk : k < 1000) : ∀ (m s B : Nat) (o : Option Nat), s + m = n → s ≤ k → B < 64 → (∀ x, o = some x → x < n) → exec (d + 1) 63 8 [vR 5 q, vI (nI a), vI (nI k), vI (en o), vI (nI B), vI (nI s)] [] σ = some (some (vI (en ((vgo F m B o)[k - s]?))), σ) := by
  intro m
  induction m with
  | zero =>
    intro s B o hs hk hB ho
    have e : s = n := by omega
    subst e
    rw [s63_8, hn, if_neg nlt, s63_66]
    cases o <;> rfl
  | succ m ih =>
    intro s B o hs hk hB ho
    rw [s63_8, hn, if_pos (ltn (show s < n by omega) (by omega))]
    cases o with
    | none =>
      simp only [s63_0, s63_17, s63_22, s63_25, s63_35, s63_37, s63_43, s63_45, s63_59, s63_66, en_none, c_isHouse_f hn h6 (not_isH_m1 h6), vgo, List.getElem?_nil, Option.bind_some, Option.toList_some, Option.toList_none, List.cons_append, List.nil_append, true_or, or_true, if_true, if_false, i10, i01, Bool.false_eq_true]
    | some x =>
      have hx := ho x rfl
      cases ht : B.testBit x with
      | true =>
        simp only [s63_0, s63_17, s63_22, s63_25, s63_35, s63_37, s63_43, s63_45, s63_59, s63_66, en_some, c_isHouse_t hn h6 hx, vgo, bits_at B hB x (show x < 6 by omega), ht, List.getElem?_nil, Option.bind_some, Option.toList_some, Option.toList_none, List.cons_append, List.nil_append, true_or, or_true, if_true, if_false, i10, i01, Bool.false_eq_true]
        rfl
      | false =>
        by_cases c1 : s = k
        · subst c1
          simp only [s63_0, s63_17, s63_22, s63_25, s63_35, s63_37, s63_43, s63_45, s63_59, s63_66, en_some, c_isHouse_t hn h6 hx, vgo, bits_at B hB x (show x < 6 by omega), ht, Nat.sub_self, List.getElem?_cons_zero, Option.bind_some, Option.toList_some, Option.toList_none, List.cons_append, List.nil_append, true_or, or_true, if_true, if_false, i10, i01, Bool.false_eq_true]
        · have e2 : ¬ nI s = nI k := by rw [eqN (by omega) (by omega)]; exact c1
          have e3 : k - s = (k - (s + 1)) + 1 := by omega
          simp only [s63_0, s63_17, s63_22, s63_25, s63_35, s63_37, s63_43, s63_45, s63_59, s63_66, en_some, c_isHouse_t hn h6 hx, vgo, bits_at B hB x (show x < 6 by omega), bits_or B hB x (show x < 6 by omega), ht, e2, e3, List.getElem?_cons_succ, oob_nI (show x < 6 by omega) (by decide), cl6 (show x < 6 by omega), hF x hx, add1N, Option.bind_some, Option.toList_some, Option.toList_none, List.cons_append, List.nil_append, true_or, or_true, if_true, if_false, i10, i01, Bool.false_eq_true]
          exact ih (s + 1) (B ||| 2 ^ x) (F x) (by omega) (by omega) (bits_lt B hB x (by omega)) (hv x)
theorem c_onLine {a k : Nat} (hn : ar σ 5 q 7 = nI n) (h6 : n ≤ 6) (hF : ∀ a, a < n → ar σ 13 q a = en (F a)) (hv : ∀ a b, F a = some b → b < n) (ha : a < n) (hk : k < 1000) : call (d + 1) 63 [vR 5 q, vI (nI a), vI (nI k)] σ = some (some (vI (en ((vgo F n 0 (some a))[k]?))), σ) := by
  rw [s63_e, s63_0]
  exact l_onLine (a := a) hn h6 hF hv hk n 0 0 (some a) (by omega) (by omega) (by omega) (fun x h => by cases h; exact ha)
theorem c_lineLength {a : Nat} (hn : ar σ 5 q 7 = nI n) (h6 : n ≤ 6) (hF : ∀ a, a < n → ar σ 13 q a = en (F a)) (hv : ∀ a b, F a = some b → b < n) (ha : a < n) : call (d + 2) 64 [vR 5 q, vI (nI a)] σ = some (some (vI (nI (vgo F n 0 (some a)).length)), σ) := by
  rw [s64_e, s64_0]
  have hl := vgo_len (F := F) n 0 (some a)
  have hmem := vgo_lt hv n 0 (some a) (fun x h => by cases h; exact ha)
  revert hl hmem
  have hon := fun k (hk : k < 1000) => c_onLine (d := d) (a := a) (k := k) hn h6 hF hv ha hk
  revert hon
  generalize vgo F n 0 (some a) = l
  intro hon hl hmem
  have key := down0 (Pr := fun k => exec (d + 2) 64 4 [vR 5 q, vI (nI a), vI (nI (min k l.length)), vI (nI k)] [] σ = some (some (vI (nI l.length)), σ)) n (fun k hk ih => ?_) ?_
  · exact key
  · rw [s64_4, hn, if_pos (ltn hk (by omega))]
    by_cases c1 : k < l.length
    · have e1 : l[k]? = some l[k] := List.getElem?_eq_getElem c1
      have e2 : ¬ nI l[k] = -1 := fun z => by have := n1N (a := l[k]) (by have := hmem _ (List.getElem_mem c1); omega); rw [z] at this; exact this ▸ rfl
      have e3 : min (k + 1) l.length = k + 1 := by omega
      rw [e3] at ih
      simp only [s64_0, s64_12, s64_18, s64_22, s64_26, s64_32, hon k (by omega), e1, en_some, e2, add1N, Option.bind_some, Option.toList_some, Option.toList_none, List.cons_append, List.nil_append, true_or, or_true, if_true, if_false, i10, i01, Bool.false_eq_true]
      exact ih
    · have e1 : l[k]? = none := List.getElem?_eq_none (by omega)
      have e3 : min (k + 1) l.length = min k l.length := by omega
      rw [e3] at ih
      simp only [s64_0, s64_12, s64_18, s64_22, s64_26, s64_32, hon k (by omega), e1, en_none, add1N, Option.bind_some, Option.toList_some, Option.toList_none, List.cons_append, List.nil_append, true_or, or_true, if_true, if_false, i10, i01, Bool.false_eq_true]
      exact ih
  · have e3 : min n l.length = l.length := by omega
    rw [s64_4, hn, if_neg nlt, s64_32, e3]
theorem c_lineEnd {a : Nat} (hn : ar σ 5 q 7 = nI n) (h6 : n ≤ 6) (hF : ∀ a, a < n → ar σ 13 q a = en (F a)) (hv : ∀ a b, F a = some b → b < n) (ha : a < n) : call (d + 3) 65 [vR 5 q, vI (nI a)] σ = some (some (vI (en ((vgo F n 0 (some a))[(vgo F n 0 (some a)).length - 1]?))), σ) := by
  have hl := vgo_len (F := F) n 0 (some a)
  have h1 : 1 ≤ (vgo F n 0 (some a)).length := by
    obtain ⟨k, rfl⟩ : ∃ k, n = k + 1 := ⟨n - 1, by omega⟩
    rw [vgo, if_neg (by rw [Nat.zero_testBit]; exact Bool.false_ne_true), List.length_cons]
    omega
  have e1 : nI (vgo F n 0 (some a)).length - 1 = nI ((vgo F n 0 (some a)).length - 1) := by
    rw [show (1 : Int32) = nI 1 from rfl, pk_sub h1]
  simp only [s65_e, s65_0, s65_7, s65_12, c_lineLength hn h6 hF hv ha, e1, c_onLine hn h6 hF hv ha (show (vgo F n 0 (some a)).length - 1 < 1000 by omega), Option.bind_some, Option.toList_some, Option.toList_none, List.cons_append, List.nil_append, true_or, or_true, if_true, if_false, i10, i01, Bool.false_eq_true]
theorem c_countAngers : call d 68 [vR 5 q] σ = some (some (vI (nI (cn (fun j => decide (0 < ar σ 16 q j)) 36))), σ) := by
  rw [s68_e, s68_0]
  refine down0 (Pr := fun b => exec d 68 4 [vR 5 q, vI (nI (cn (fun j => decide (0 < ar σ 16 q j)) b)), vI (nI b)] [] σ = some (some (vI (nI (cn (fun j => decide (0 < ar σ 16 q j)) 36))), σ)) 36 (fun b hb ih => ?_) ?_
  · rw [s68_4, show (36 : Int32) = nI 36 from rfl, if_pos (ltn hb (by omega))]
    by_cases c1 : 0 < ar σ 16 q b
    · rw [cn, if_pos (decide_eq_true c1)] at ih
      simp only [s68_0, s68_10, s68_16, s68_19, s68_22, s68_28, oob_nI hb (by decide), clN (show b ≤ 100000 by omega), c1, add1N, Option.bind_some, Option.toList_some, Option.toList_none, List.cons_append, List.nil_append, true_or, or_true, if_true, if_false, i10, i01, Bool.false_eq_true]
      exact ih
    · rw [cn, if_neg (by rw [decide_eq_true_eq]; exact c1)] at ih
      simp only [s68_0, s68_10, s68_16, s68_19, s68_22, s68_28, oob_nI hb (by decide), clN (show b ≤ 100000 by omega), c1, add1N, Option.bind_some, Option.toList_some, Option.toList_none, List.cons_append, List.nil_append, true_or, or_true, if_true, if_false, i10, i01, Bool.false_eq_true]
      exact ih
  · rw [s68_4, show (36 : Int32) = nI 36 from rfl, if_neg nlt, s68_28]
theorem c_sumAngers (hn : ar σ 5 q 7 = nI n) (h6 : n ≤ 6) : call (d + 2) 69 [vR 5 q] σ = some (some (vI (sm (fun a => sm (fun b => ar σ 16 q (6 * a + b)) n) n)), σ) := by
  rw [s69_e, s69_0]
  refine down0 (Pr := fun b => exec (d + 2) 69 4 [vR 5 q, vI (sm (fun a => sm (fun b => ar σ 16 q (6 * a + b)) n) b), vI (nI b)] [] σ = some (some (vI (sm (fun a => sm (fun b => ar σ 16 q (6 * a + b)) n) n)), σ)) n (fun b hb ih => ?_) ?_
  · rw [s69_4, hn, if_pos (ltn hb (by omega))]
    simp only [s69_0, s69_12, s69_18, s69_26, c_angersOf hn h6 (show b < 6 by omega), add1N, Option.bind_some, Option.toList_some, Option.toList_none, List.cons_append, List.nil_append, true_or, or_true, if_true, if_false, i10, i01, Bool.false_eq_true]
    exact ih
  · rw [s69_4, hn, if_neg nlt, s69_26]
theorem c_countAtRiver (hn : ar σ 5 q 7 = nI n) (h6 : n ≤ 6) (hF : ∀ a, a < n → ar σ 13 q a = en (F a)) (hv : ∀ a b, F a = some b → b < n) : call d 70 [vR 5 q] σ = some (some (vI (nI (cn (fun a => decide (F a = none)) n))), σ) := by
  rw [s70_e, s70_0]
  refine down0 (Pr := fun b => exec d 70 4 [vR 5 q, vI (nI (cn (fun a => decide (F a = none)) b)), vI (nI b)] [] σ = some (some (vI (nI (cn (fun a => decide (F a = none)) n))), σ)) n (fun b hb ih => ?_) ?_
  · rw [s70_4, hn, if_pos (ltn hb (by omega))]
    have e1 := en_m1 (o := F b) (fun c h => by have := hv _ _ h; omega)
    by_cases c1 : F b = none
    · rw [cn, if_pos (decide_eq_true c1)] at ih
      simp only [s70_0, s70_12, s70_18, s70_22, s70_25, s70_31, oob_nI (show b < 6 by omega) (by decide), cl6 (show b < 6 by omega), hF b hb, c1, en_none, add1N, Option.bind_some, Option.toList_some, Option.toList_none, List.cons_append, List.nil_append, true_or, or_true, if_true, if_false, i10, i01, Bool.false_eq_true]
      exact ih
    · rw [cn, if_neg (by rw [decide_eq_true_eq]; exact c1)] at ih
      simp only [s70_0, s70_12, s70_18, s70_22, s70_25, s70_31, oob_nI (show b < 6 by omega) (by decide), cl6 (show b < 6 by omega), hF b hb, e1, c1, add1N, Option.bind_some, Option.toList_some, Option.toList_none, List.cons_append, List.nil_append, true_or, or_true, if_true, if_false, i10, i01, Bool.false_eq_true]
      exact ih
  · rw [s70_4, hn, if_neg nlt, s70_31]
theorem c_worthOfViews (hn : ar σ 5 q 7 = nI n) (h6 : n ≤ 6) (hF : ∀ a, a < n → ar σ 13 q a = en (F a)) (hv : ∀ a b, F a = some b → b < n) : call d 71 [vR 5 q] σ = some (some (vI (sm (fun a => if F a = none then ar σ 12 q a else 0) n)), σ) := by
  rw [s71_e, s71_0]
  refine down0 (Pr := fun b => exec d 71 4 [vR 5 q, vI (sm (fun a => if F a = none then ar σ 12 q a else 0) b), vI (nI b)] [] σ = some (some (vI (sm (fun a => if F a = none then ar σ 12 q a else 0) n)), σ)) n (fun b hb ih => ?_) ?_
  · rw [s71_4, hn, if_pos (ltn hb (by omega))]
    have e1 := en_m1 (o := F b) (fun c h => by have := hv _ _ h; omega)
    by_cases c1 : F b = none
    · rw [sm] at ih
      simp only [c1, if_true] at ih
      simp only [s71_0, s71_12, s71_18, s71_22, s71_29, s71_31, s71_37, oob_nI (show b < 6 by omega) (by decide), cl6 (show b < 6 by omega), hF b hb, c1, en_none, add1N, Option.bind_some, Option.toList_some, Option.toList_none, List.cons_append, List.nil_append, true_or, or_true, if_true, if_false, i10, i01, Bool.false_eq_true]
      exact ih
    · rw [sm] at ih
      simp only [c1, if_false, Int32.add_zero] at ih
      simp only [s71_0, s71_12, s71_18, s71_22, s71_29, s71_31, s71_37, oob_nI (show b < 6 by omega) (by decide), cl6 (show b < 6 by omega), hF b hb, e1, c1, add1N, Option.bind_some, Option.toList_some, Option.toList_none, List.cons_append, List.nil_append, true_or, or_true, if_true, if_false, i10, i01, Bool.false_eq_true]
      exact ih
  · rw [s71_4, hn, if_neg nlt, s71_37]
theorem c_countStares (hn : ar σ 5 q 7 = nI n) (h6 : n ≤ 6) (hF : ∀ a, a < n → ar σ 13 q a = en (F a)) (hv : ∀ a b, F a = some b → b < n) : call (d + 2) 72 [vR 5 q] σ = some (some (vI (nI (cn (fun a => star F a && lts (F a) a) n))), σ) := by
  rw [s72_e, s72_0]
  refine down0 (Pr := fun b => exec (d + 2) 72 4 [vR 5 q, vI (nI (cn (fun a => star F a && lts (F a) a) b)), vI (nI b)] [] σ = some (some (vI (nI (cn (fun a => star F a && lts (F a) a) n))), σ)) n (fun b hb ih => ?_) ?_
  · rw [s72_4, hn, if_pos (ltn hb (by omega))]
    have e1 := en_lts (o := F b) (a := b) (n := n) (by omega) (by omega) (fun c h => hv _ _ h)
    cases c1 : star F b with
    | false =>
      rw [cn, if_neg (by rw [c1]; exact Bool.false_ne_true)] at ih
      simp only [s72_0, s72_12, s72_17, s72_20, s72_27, s72_30, s72_33, s72_39, c_isStaring hn h6 hF hv hb, c1, add1N, Option.bind_some, Option.toList_some, Option.toList_none, List.cons_append, List.nil_append, true_or, or_true, if_true, if_false, i10, i01, Bool.false_eq_true]
      exact ih
    | true =>
      cases c2 : lts (F b) b with
      | false =>
        rw [cn, if_neg (by rw [c1, c2]; exact Bool.false_ne_true)] at ih
        simp only [s72_0, s72_12, s72_17, s72_20, s72_27, s72_30, s72_33, s72_39, c_isStaring hn h6 hF hv hb, c1, oob_nI (show b < 6 by omega) (by decide), cl6 (show b < 6 by omega), hF b hb, e1, c2, add1N, Option.bind_some, Option.toList_some, Option.toList_none, List.cons_append, List.nil_append, true_or, or_true, if_true, if_false, i10, i01, Bool.false_eq_true]
        exact ih
      | true =>
        rw [cn, if_pos (by rw [c1, c2]; rfl)] at ih
        simp only [s72_0, s72_12, s72_17, s72_20, s72_27, s72_30, s72_33, s72_39, c_isStaring hn h6 hF hv hb, c1, oob_nI (show b < 6 by omega) (by decide), cl6 (show b < 6 by omega), hF b hb, e1, c2, add1N, Option.bind_some, Option.toList_some, Option.toList_none, List.cons_append, List.nil_append, true_or, or_true, if_true, if_false, i10, i01, Bool.false_eq_true]
        exact ih
  · rw [s72_4, hn, if_neg nlt, s72_39]
theorem l_ringBits {a : Nat} (hn : ar σ 5 q 7 = nI n) (h6 : n ≤ 6) (hF : ∀ a, a < n → ar σ 13 q a = en (F a)) (hv : ∀ a b, F a = some b → b < n) : ∀ (m s B : Nat) (o : Option Nat), s + m = n → B < 64 → (∀ x, o = some x → x < n) → exec (d + 1) 92 7 [vR 5 q, vI (nI a), vI (nI B), vI (en o), vI (nI s)] [] σ = some (some (vI (nI (rbit F m B o))), σ) := by
  intro m
  induction m with
  | zero =>
    intro s B o hs hB ho
    have e : s = n := by omega
    subst e
    rw [s92_7, hn, if_neg nlt, s92_43]
    cases o <;> rfl
  | succ m ih =>
    intro s B o hs hB ho
    rw [s92_7, hn, if_pos (ltn (show s < n by omega) (by omega))]
    cases o with
    | none => simp only [s92_0, s92_16, s92_21, s92_24, s92_36, s92_43, en_none, c_isHouse_f hn h6 (not_isH_m1 h6), rbit, Option.bind_some, Option.toList_some, Option.toList_none, List.cons_append, List.nil_append, true_or, or_true, if_true, if_false, i10, i01, Bool.false_eq_true]
    | some x =>
      have hx := ho x rfl
      simp only [s92_0, s92_16, s92_21, s92_24, s92_36, s92_43, en_some, c_isHouse_t hn h6 hx, rbit, bits_or B hB x (show x < 6 by omega), oob_nI (show x < 6 by omega) (by decide), cl6 (show x < 6 by omega), hF x hx, add1N, Option.bind_some, Option.toList_some, Option.toList_none, List.cons_append, List.nil_append, true_or, or_true, if_true, if_false, i10, i01, Bool.false_eq_true]
      exact ih (s + 1) (B ||| 2 ^ x) (F x) (by omega) (bits_lt B hB x (by omega)) (hv x)
theorem c_ringBits {a : Nat} (hn : ar σ 5 q 7 = nI n) (h6 : n ≤ 6) (hF : ∀ a, a < n → ar σ 13 q a = en (F a)) (hv : ∀ a b, F a = some b → b < n) (ha : a < n) : call (d + 1) 92 [vR 5 q, vI (nI a)] σ = some (some (vI (nI (rbit F n 0 (some a)))), σ) := by
  rw [s92_e, s92_0]
  exact l_ringBits (a := a) hn h6 hF hv n 0 0 (some a) (by omega) (by omega) (fun x h => by cases h; exact ha)
theorem c_countRings (hn : ar σ 5 q 7 = nI n) (h6 : n ≤ 6) (hF : ∀ a, a < n → ar σ 13 q a = en (F a)) (hv : ∀ a b, F a = some b → b < n) : call (d + 2) 73 [vR 5 q] σ = some (some (vI (nI (crs F n n).1)), σ) := by
  rw [s73_e, s73_0]
  refine down0 (Pr := fun b => exec (d + 2) 73 6 [vR 5 q, vI (nI (crs F n b).1), vI (nI (crs F n b).2), vI (nI b)] [] σ = some (some (vI (nI (crs F n n).1)), σ)) n (fun b hb ih => ?_) ?_
  · rw [s73_6, hn, if_pos (ltn hb (by omega))]
    obtain ⟨hB, hc⟩ := crs_lt h6 hv b (by omega)
    have hr := rbit_lt h6 hv n 0 (some b) (by omega) (fun x h => by cases h; exact hb)
    have hrs := rgo_le (F := F) (a := b) n 1 b
    cases c1 : (crs F n b).2.testBit b with
    | true =>
      rw [crs, if_neg (fun z => by rw [c1] at z; cases z.1)] at ih
      simp only [s73_0, s73_14, s73_22, s73_27, s73_30, s73_36, s73_41, s73_47, bits_at _ hB b (show b < 6 by omega), c1, add1N, Option.bind_some, Option.toList_some, Option.toList_none, List.cons_append, List.nil_append, true_or, or_true, if_true, if_false, i10, i01, Bool.false_eq_true]
      exact ih
    | false =>
      by_cases c2 : 0 < rsz F n b
      · rw [crs, if_pos ⟨c1, c2⟩] at ih
        have e2 : 0 < nI (rsz F n b) := ltn (b := 0) c2 (by unfold rsz; omega)
        simp only [s73_0, s73_14, s73_22, s73_27, s73_30, s73_36, s73_41, s73_47, bits_at _ hB b (show b < 6 by omega), c1, c_ringSize hn h6 hF hv hb, e2, c_ringBits hn h6 hF hv hb, bits_oo _ hB _ hr, add1N, Option.bind_some, Option.toList_some, Option.toList_none, List.cons_append, List.nil_append, true_or, or_true, if_true, if_false, i10, i01, Bool.false_eq_true]
        exact ih
      · rw [crs, if_neg (fun z => c2 z.2)] at ih
        have e2 : ¬ (0 : Int32) < nI (rsz F n b) := by rw [show rsz F n b = 0 by omega]; exact nlt (n := 0)
        simp only [s73_0, s73_14, s73_22, s73_27, s73_30, s73_36, s73_41, s73_47, bits_at _ hB b (show b < 6 by omega), c1, c_ringSize hn h6 hF hv hb, e2, add1N, Option.bind_some, Option.toList_some, Option.toList_none, List.cons_append, List.nil_append, true_or, or_true, if_true, if_false, i10, i01, Bool.false_eq_true]
        exact ih
  · rw [s73_6, hn, if_neg nlt, s73_47]
theorem c_countPriests (hn : ar σ 5 q 7 = nI n) (h6 : n ≤ 6) (hF : ∀ a, a < n → ar σ 13 q a = en (F a)) (hv : ∀ a b, F a = some b → b < n) : call (d + 1) 74 [vR 5 q] σ = some (some (vI (nI (cn (fun a => decide (fbit F a n = 0)) n))), σ) := by
  rw [s74_e, s74_0]
  refine down0 (Pr := fun b => exec (d + 1) 74 4 [vR 5 q, vI (nI (cn (fun a => decide (fbit F a n = 0)) b)), vI (nI b)] [] σ = some (some (vI (nI (cn (fun a => decide (fbit F a n = 0)) n))), σ)) n (fun b hb ih => ?_) ?_
  · rw [s74_4, hn, if_pos (ltn hb (by omega))]
    have hB := fbit_lt (F := F) (a := b) h6
    have e1 : (nI (fbit F b n) = 0) = (fbit F b n = 0) := by rw [show (0 : Int32) = nI 0 from rfl, eqN (by omega) (by omega)]
    by_cases c1 : fbit F b n = 0
    · rw [cn, if_pos (decide_eq_true c1)] at ih
      simp only [s74_0, s74_12, s74_17, s74_20, s74_23, s74_29, c_frontersOf hn h6 hF hv (show b < 6 by omega), e1, c1, add1N, Option.bind_some, Option.toList_some, Option.toList_none, List.cons_append, List.nil_append, true_or, or_true, if_true, if_false, i10, i01, Bool.false_eq_true]
      exact ih
    · rw [cn, if_neg (by rw [decide_eq_true_eq]; exact c1)] at ih
      simp only [s74_0, s74_12, s74_17, s74_20, s74_23, s74_29, c_frontersOf hn h6 hF hv (show b < 6 by omega), e1, c1, add1N, Option.bind_some, Option.toList_some, Option.toList_none, List.cons_append, List.nil_append, true_or, or_true, if_true, if_false, i10, i01, Bool.false_eq_true]
      exact ih
  · rw [s74_4, hn, if_neg nlt, s74_29]
theorem c_countWalls : call (d + 1) 75 [vR 5 q] σ = some (some (vI (sm (fun p => ar σ 17 q (6 * lop p + hip p)) 15)), σ) := by
  rw [s75_e, s75_0]
  refine down0 (Pr := fun b => exec (d + 1) 75 4 [vR 5 q, vI (sm (fun p => ar σ 17 q (6 * lop p + hip p)) b), vI (nI b)] [] σ = some (some (vI (sm (fun p => ar σ 17 q (6 * lop p + hip p)) 15)), σ)) 15 (fun b hb ih => ?_) ?_
  · rw [s75_4, show (15 : Int32) = nI 15 from rfl, if_pos (ltn hb (by omega))]
    obtain ⟨h1, h2⟩ := lop_lt b hb
    have i1 : oob (nI (6 * lop b + hip b)) 36 = false := oob_nI (by omega) (by omega)
    have j1 : (nI (6 * lop b + hip b)).toNatClampNeg = 6 * lop b + hip b := clN (by omega)
    simp only [s75_0, s75_10, s75_20, s75_25, s75_28, s75_29, s75_37, oob_nI hb (by decide), clN (show b ≤ 100000 by omega), ro60 b hb, ro61 b hb, c_cell, mul6N, addN, i1, j1, add1N, Option.bind_some, Option.toList_some, Option.toList_none, List.cons_append, List.nil_append, true_or, or_true, if_true, if_false, i10, i01, Bool.false_eq_true]
    exact ih
  · rw [s75_4, show (15 : Int32) = nI 15 from rfl, if_neg nlt, s75_37]
theorem c_sumTorn (hn : ar σ 5 q 7 = nI n) (h6 : n ≤ 6) : call d 76 [vR 5 q] σ = some (some (vI (sm (ar σ 14 q) n)), σ) := by
  rw [s76_e, s76_0]
  refine down0 (Pr := fun b => exec d 76 4 [vR 5 q, vI (sm (ar σ 14 q) b), vI (nI b)] [] σ = some (some (vI (sm (ar σ 14 q) n)), σ)) n (fun b hb ih => ?_) ?_
  · rw [s76_4, hn, if_pos (ltn hb (by omega))]
    simp only [s76_0, s76_12, s76_19, s76_27, oob_nI (show b < 6 by omega) (by decide), cl6 (show b < 6 by omega), add1N, Option.bind_some, Option.toList_some, Option.toList_none, List.cons_append, List.nil_append, true_or, or_true, if_true, if_false, i10, i01, Bool.false_eq_true]
    exact ih
  · rw [s76_4, hn, if_neg nlt, s76_27]
theorem c_sumCosts (hn : ar σ 5 q 7 = nI n) (h6 : n ≤ 6) : call d 77 [vR 5 q] σ = some (some (vI (sm (ar σ 15 q) n)), σ) := by
  rw [s77_e, s77_0]
  refine down0 (Pr := fun b => exec d 77 4 [vR 5 q, vI (sm (ar σ 15 q) b), vI (nI b)] [] σ = some (some (vI (sm (ar σ 15 q) n)), σ)) n (fun b hb ih => ?_) ?_
  · rw [s77_4, hn, if_pos (ltn hb (by omega))]
    simp only [s77_0, s77_12, s77_19, s77_27, oob_nI (show b < 6 by omega) (by decide), cl6 (show b < 6 by omega), add1N, Option.bind_some, Option.toList_some, Option.toList_none, List.cons_append, List.nil_append, true_or, or_true, if_true, if_false, i10, i01, Bool.false_eq_true]
    exact ih
  · rw [s77_4, hn, if_neg nlt, s77_27]
theorem c_leastInRing (hn : ar σ 5 q 7 = nI n) (h6 : n ≤ 6) (hF : ∀ a, a < n → ar σ 13 q a = en (F a)) (hv : ∀ a b, F a = some b → b < n) : call (d + 2) 78 [vR 5 q] σ = some (some (vI (en (lir F n n 0))), σ) := by
  rw [s78_e, s78_0]
  have key : ∀ m a, a + m = n → exec (d + 2) 78 2 [vR 5 q, vI (nI a)] [] σ = some (some (vI (en (lir F n m a))), σ) := by
    intro m
    induction m with
    | zero =>
      intro a ha
      have e : a = n := by omega
      subst e
      rw [s78_2, hn, if_neg nlt, s78_26]
      rfl
    | succ m ih =>
      intro a ha
      rw [s78_2, hn, if_pos (ltn (show a < n by omega) (by omega))]
      have hrs := rgo_le (F := F) (a := a) n 1 a
      by_cases c2 : 0 < rsz F n a
      · have e2 : 0 < nI (rsz F n a) := ltn (b := 0) c2 (by unfold rsz; omega)
        simp only [s78_0, s78_10, s78_15, s78_18, s78_20, s78_26, c_ringSize hn h6 hF hv (show a < n by omega), e2, lir, c2, Option.bind_some, Option.toList_some, Option.toList_none, List.cons_append, List.nil_append, true_or, or_true, if_true, if_false, i10, i01, Bool.false_eq_true]
        rfl
      · have e2 : ¬ (0 : Int32) < nI (rsz F n a) := by rw [show rsz F n a = 0 by omega]; exact nlt (n := 0)
        simp only [s78_0, s78_10, s78_15, s78_18, s78_20, s78_26, c_ringSize hn h6 hF hv (show a < n by omega), e2, lir, c2, add1N, Option.bind_some, Option.toList_some, Option.toList_none, List.cons_append, List.nil_append, true_or, or_true, if_true, if_false, i10, i01, Bool.false_eq_true]
        exact ih (a + 1) (by omega)
  exact key n 0 (by omega)
end SQ2

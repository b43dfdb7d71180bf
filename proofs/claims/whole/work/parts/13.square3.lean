/-! Square: what changes. -/
section SQ3
variable {d : Nat} {σ : St} {q n : Nat} {F : Nat → Option Nat} {K W A : Nat → Int32}
theorem c_growth {x y : Int32} : call d 89 [vI x, vI y] σ = some (some (vI (grw x (¬ y = 0))), σ) := by
  simp only [s89_e, s89_0, s89_28, s89_30, s89_34, s89_38, s89_39, s89_40, tI (show (1 : Int32).toInt = 1 from rfl), tI (show (4 : Int32).toInt = 4 from rfl), grw]
  by_cases h1 : x = 1
  · simp only [h1, Option.bind_some, Option.toList_some, Option.toList_none, List.cons_append, List.nil_append, true_or, or_true, if_true, if_false, i10, i01, Bool.false_eq_true]
  · by_cases h4 : x = 4
    · by_cases hy : y = 0
      · simp only [h1, h4, hy, Option.bind_some, Option.toList_some, Option.toList_none, List.cons_append, List.nil_append, true_or, or_true, if_true, if_false, i10, i01, Bool.false_eq_true, not_true_eq_false]
        rfl
      · simp only [h1, h4, hy, Option.bind_some, Option.toList_some, Option.toList_none, List.cons_append, List.nil_append, true_or, or_true, if_true, if_false, i10, i01, Bool.false_eq_true, not_false_eq_true]
        rfl
    · simp only [h1, h4, Option.bind_some, Option.toList_some, Option.toList_none, List.cons_append, List.nil_append, true_or, or_true, if_true, if_false, i10, i01, Bool.false_eq_true]
theorem grw_ext {x : Int32} {s t : Prop} [Decidable s] [Decidable t] (h : s ↔ t) : grw x s = grw x t := by
  unfold grw
  by_cases hs : s
  · rw [if_pos hs, if_pos (h.mp hs)]
  · rw [if_neg hs, if_neg (fun z => hs (h.mpr z))]
theorem c_change {a b : Nat} (hF : ∀ a, a < n → ar σ 13 q a = en (F a)) (h6 : n ≤ 6) (hv : ∀ a b, F a = some b → b < n) (ha : a < n) (hb : b < n) : call (d + 1) 88 [vR 5 q, vI (nI a), vI (nI b)] σ = some (some (vI (chg (ar σ 11 q) F a b)), σ) := by
  have ia := oob_nI (show a < 6 by omega) (by decide)
  have ib := oob_nI (show b < 6 by omega) (by decide)
  have ja := cl6 (show a < 6 by omega)
  have jb := cl6 (show b < 6 by omega)
  have e1 := en_eq (o := F b) (a := a) (by omega) (fun c h => by have := hv _ _ h; omega)
  have e2 := en_eq (o := F a) (a := b) (by omega) (fun c h => by have := hv _ _ h; omega)
  have g1 : ∀ k, grw k (¬ (1 : Int32) = 0) = grw k True := fun k => grw_ext (by decide)
  have g0 : ∀ k, grw k (¬ (0 : Int32) = 0) = grw k False := fun k => grw_ext (by decide)
  unfold chg
  by_cases c1 : ar σ 11 q a = 2
  · simp only [s88_e, s88_0, s88_6, s88_10, s88_13, s88_19, s88_23, s88_27, s88_28, s88_33, s88_37, s88_38, s88_46, s88_50, s88_55, s88_63, s88_67, ia, ja, c1, Option.bind_some, Option.toList_some, Option.toList_none, List.cons_append, List.nil_append, true_or, or_true, if_true, if_false, i10, i01, Bool.false_eq_true]
  · by_cases c2 : F b = some a
    · have e1' : ar σ 13 q b = nI a := by rw [hF b hb, c2, en_some]
      by_cases c3 : F a = some b
      · have e2' : ar σ 13 q a = nI b := by rw [hF a ha, c3, en_some]
        simp only [s88_e, s88_0, s88_6, s88_10, s88_13, s88_19, s88_23, s88_27, s88_28, s88_33, s88_37, s88_38, s88_46, s88_50, s88_55, s88_63, s88_67, ia, ja, ib, jb, c1, e1', e2', c_growth, g1, Option.bind_some, Option.toList_some, Option.toList_none, List.cons_append, List.nil_append, true_or, or_true, if_true, if_false, i10, i01, Bool.false_eq_true]
        rw [if_pos c3, if_pos c2]
        exact congrArg (fun z => some (some (vI (1 + z)), σ)) (grw_ext (by simp [c2]))
      · have e2' : ¬ ar σ 13 q a = nI b := by rw [hF a ha, e2]; exact c3
        simp only [s88_e, s88_0, s88_6, s88_10, s88_13, s88_19, s88_23, s88_27, s88_28, s88_33, s88_37, s88_38, s88_46, s88_50, s88_55, s88_63, s88_67, ia, ja, ib, jb, c1, e1', e2', Option.bind_some, Option.toList_some, Option.toList_none, List.cons_append, List.nil_append, true_or, or_true, if_true, if_false, i10, i01, Bool.false_eq_true]
        rw [if_neg c3, if_pos c2]
    · have e1' : ¬ ar σ 13 q b = nI a := by rw [hF b hb, e1]; exact c2
      by_cases c3 : F a = some b
      · have e2' : ar σ 13 q a = nI b := by rw [hF a ha, c3, en_some]
        simp only [s88_e, s88_0, s88_6, s88_10, s88_13, s88_19, s88_23, s88_27, s88_28, s88_33, s88_37, s88_38, s88_46, s88_50, s88_55, s88_63, s88_67, ia, ja, ib, jb, c1, e1', e2', c_growth, g0, Option.bind_some, Option.toList_some, Option.toList_none, List.cons_append, List.nil_append, true_or, or_true, if_true, if_false, i10, i01, Bool.false_eq_true]
        rw [if_pos c3, if_neg c2]
        exact congrArg (fun z => some (some (vI (0 + z)), σ)) (grw_ext (by simp [c2]))
      · have e2' : ¬ ar σ 13 q a = nI b := by rw [hF a ha, e2]; exact c3
        simp only [s88_e, s88_0, s88_6, s88_10, s88_13, s88_19, s88_23, s88_27, s88_28, s88_33, s88_37, s88_38, s88_46, s88_50, s88_55, s88_63, s88_67, ia, ja, ib, jb, c1, e1', e2', Option.bind_some, Option.toList_some, Option.toList_none, List.cons_append, List.nil_append, true_or, or_true, if_true, if_false, i10, i01, Bool.false_eq_true]
        rw [if_neg c3, if_neg c2]
theorem c_turnAll (hn : ar σ 5 q 7 = nI n) (h6 : n ≤ 6) (hF : ∀ a, a < n → ar σ 13 q a = en (F a)) (hv : ∀ a b, F a = some b → b < n) :
    call (d + 1) 90 [vR 5 q] σ = some (some (vI (nI (cn (fun a => !decide (pick n (ar σ 11 q) (ar σ 17 q) (ar σ 16 q) a = F a)) n))), sw σ 13 q (fun a => if a < n then en (pick n (ar σ 11 q) (ar σ 17 q) (ar σ 16 q) a) else ar σ 13 q a)) := by
  rw [s90_e, s90_0]
  have key := down0 (Pr := fun b => ∀ v3 : IV, exec (d + 1) 90 4 [vR 5 q, vI (nI (cn (fun a => !decide (pick n (ar σ 11 q) (ar σ 17 q) (ar σ 16 q) a = F a)) b)), vI (nI b), v3] [] (sw σ 13 q (fun a => if a < b then en (pick n (ar σ 11 q) (ar σ 17 q) (ar σ 16 q) a) else ar σ 13 q a)) = some (some (vI (nI (cn (fun a => !decide (pick n (ar σ 11 q) (ar σ 17 q) (ar σ 16 q) a = F a)) n))), sw σ 13 q (fun a => if a < n then en (pick n (ar σ 11 q) (ar σ 17 q) (ar σ 16 q) a) else ar σ 13 q a))) n (fun b hb ih v3 => ?_) (fun v3 => ?_)
  · have e0 : sw σ 13 q (fun a => if a < 0 then en (pick n (ar σ 11 q) (ar σ 17 q) (ar σ 16 q) a) else ar σ 13 q a) = σ := sw_id (by funext a; simp)
    have := key vN
    rw [e0] at this
    exact this
  · rw [s90_4]
    have hn2 : ar (sw σ 13 q (fun a => if a < b then en (pick n (ar σ 11 q) (ar σ 17 q) (ar σ 16 q) a) else ar σ 13 q a)) 5 q 7 = nI n := by rw [ar_sw_t (by decide)]; exact hn
    rw [hn2, if_pos (ltn hb (by omega))]
    have hp := c_pickFront (d := d) (a := b) hn2 h6 (show b < 6 by omega)
    rw [ar_sw_t (by decide), ar_sw_t (by decide), ar_sw_t (by decide)] at hp
    have e1 := en_inj (o := pick n (ar σ 11 q) (ar σ 17 q) (ar σ 16 q) b) (o' := F b) (fun c h => by have := pick_lt h; omega) (fun c h => by have := hv _ _ h; omega)
    have e2 : upd (fun a => if a < b then en (pick n (ar σ 11 q) (ar σ 17 q) (ar σ 16 q) a) else ar σ 13 q a) b (en (pick n (ar σ 11 q) (ar σ 17 q) (ar σ 16 q) b)) = (fun a => if a < b + 1 then en (pick n (ar σ 11 q) (ar σ 17 q) (ar σ 16 q) a) else ar σ 13 q a) := by
      funext a
      rw [upd_if]
      by_cases h1 : a = b
      · subst h1; simp
      · by_cases h2 : a < b
        · simp [h1, h2, Nat.lt_succ_of_lt h2]
        · simp [h1, h2, show ¬ a < b + 1 by omega]
    by_cases c1 : pick n (ar σ 11 q) (ar σ 17 q) (ar σ 16 q) b = F b
    · have e3 : cn (fun a => !decide (pick n (ar σ 11 q) (ar σ 17 q) (ar σ 16 q) a = F a)) (b + 1) = cn (fun a => !decide (pick n (ar σ 11 q) (ar σ 17 q) (ar σ 16 q) a = F a)) b := by rw [cn, if_neg (by simp [c1])]
      rw [e3] at ih
      simp only [s90_0, s90_12, s90_17, s90_25, s90_28, s90_31, s90_38, s90_44, hp, oob_nI (show b < 6 by omega) (by decide), cl6 (show b < 6 by omega), ar_sw_s, Nat.lt_irrefl, hF b hb, e1, c1, Option.bind_some, Option.toList_some, Option.toList_none, List.cons_append, List.nil_append, true_or, or_true, if_true, if_false, i10, i01, Bool.false_eq_true, ar_sw_t, ar_sw_s, se_def, sw_sw, ne_eq, not_false_eq_true, Nat.reduceEqDiff, add1N]
      rw [← c1, e2]
      exact ih _
    · have e3 : cn (fun a => !decide (pick n (ar σ 11 q) (ar σ 17 q) (ar σ 16 q) a = F a)) (b + 1) = cn (fun a => !decide (pick n (ar σ 11 q) (ar σ 17 q) (ar σ 16 q) a = F a)) b + 1 := by rw [cn, if_pos (by simp [c1])]
      rw [e3] at ih
      simp only [s90_0, s90_12, s90_17, s90_25, s90_28, s90_31, s90_38, s90_44, hp, oob_nI (show b < 6 by omega) (by decide), cl6 (show b < 6 by omega), ar_sw_s, Nat.lt_irrefl, hF b hb, e1, c1, Option.bind_some, Option.toList_some, Option.toList_none, List.cons_append, List.nil_append, true_or, or_true, if_true, if_false, i10, i01, Bool.false_eq_true, ar_sw_t, ar_sw_s, se_def, sw_sw, ne_eq, not_false_eq_true, Nat.reduceEqDiff, add1N]
      rw [e2]
      exact ih _
  · rw [s90_4, ar_sw_t (by decide), hn, if_neg nlt, s90_44]
/-- the angers when rows before a, and in row a cells before b, are done -/
noncomputable def mp2 (n : Nat) (K : Nat → Int32) (F : Nat → Option Nat) (A : Nat → Int32) (a b : Nat) : Nat → Int32 := fun j => if (j / 6 < a ∨ (j / 6 = a ∧ j % 6 < b)) ∧ j % 6 < n ∧ j / 6 ≠ j % 6 then bd (A j + chg K F (j / 6) (j % 6)) else A j
theorem mp2_step {a b : Nat} (h6 : n ≤ 6) (hb : b < n) (hab : a ≠ b) : upd (mp2 n K F A a b) (6 * a + b) (bd (A (6 * a + b) + chg K F a b)) = mp2 n K F A a (b + 1) := by
  funext j
  rw [upd_if]
  unfold mp2
  by_cases hj : j = 6 * a + b
  · have e1 : j / 6 = a := by omega
    have e2 : j % 6 = b := by omega
    rw [if_pos hj, if_pos ⟨Or.inr ⟨e1, by omega⟩, by omega, by omega⟩, e1, e2, hj]
  · rw [if_neg hj]
    by_cases hc : (j / 6 < a ∨ (j / 6 = a ∧ j % 6 < b)) ∧ j % 6 < n ∧ j / 6 ≠ j % 6
    · rw [if_pos hc, if_pos ⟨by omega, hc.2⟩]
    · rw [if_neg hc, if_neg (fun z => hc ⟨by omega, z.2⟩)]
theorem mp2_skip {a : Nat} : mp2 n K F A a (a + 1) = mp2 n K F A a a := by
  funext j
  unfold mp2
  by_cases hc : (j / 6 < a ∨ (j / 6 = a ∧ j % 6 < a)) ∧ j % 6 < n ∧ j / 6 ≠ j % 6
  · rw [if_pos hc, if_pos ⟨by omega, hc.2⟩]
  · rw [if_neg hc, if_neg (fun z => hc ⟨by omega, z.2⟩)]
theorem mp2_row {a : Nat} (h6 : n ≤ 6) : mp2 n K F A a n = mp2 n K F A (a + 1) 0 := by
  funext j
  unfold mp2
  by_cases hc : (j / 6 < a ∨ (j / 6 = a ∧ j % 6 < n)) ∧ j % 6 < n ∧ j / 6 ≠ j % 6
  · rw [if_pos hc, if_pos ⟨by omega, hc.2⟩]
  · rw [if_neg hc, if_neg (fun z => hc ⟨by omega, z.2⟩)]
theorem mp2_0 : mp2 n K F A 0 0 = A := by
  funext j
  unfold mp2
  rw [if_neg (by omega)]
theorem mp2_n : mp2 n K (pick n K W A) A n 0 = mor n K W A := by
  funext j
  unfold mp2 mor
  by_cases hc : (j / 6 < n ∨ (j / 6 = n ∧ j % 6 < 0)) ∧ j % 6 < n ∧ j / 6 ≠ j % 6
  · rw [if_pos hc, if_pos ⟨by omega, hc.2⟩]
  · rw [if_neg hc, if_neg (fun z => hc ⟨by omega, z.2⟩)]
theorem mp2_at {a b : Nat} (hb : b < 6) : mp2 n K F A a b (6 * a + b) = A (6 * a + b) := by
  unfold mp2
  rw [if_neg (by omega)]
theorem l_changeRow {a : Nat} (hn : ar σ 5 q 7 = nI n) (h6 : n ≤ 6) (hF : ∀ a, a < n → ar σ 13 q a = en (F a)) (hv : ∀ a b, F a = some b → b < n) (hA : ar σ 16 q = A) (hK : ar σ 11 q = K) (ha : a < n) :
    exec (d + 2) 86 12 [vR 5 q, vI (nI a), vI 0] [] (sw σ 16 q (mp2 n K F A a 0)) = exec (d + 2) 86 2 [vR 5 q, vI (nI (a + 1)), vI (nI n)] [] (sw σ 16 q (mp2 n K F A (a + 1) 0)) := by
  refine down0 (Pr := fun b => exec (d + 2) 86 12 [vR 5 q, vI (nI a), vI (nI b)] [] (sw σ 16 q (mp2 n K F A a b)) = exec (d + 2) 86 2 [vR 5 q, vI (nI (a + 1)), vI (nI n)] [] (sw σ 16 q (mp2 n K F A (a + 1) 0))) n (fun b hb ih => ?_) ?_
  · rw [s86_12, ar_sw_t (by decide), hn, if_pos (ltn hb (by omega))]
    by_cases hab : a = b
    · subst hab
      rw [mp2_skip] at ih
      simp only [s86_20, s86_55, add1N, Option.bind_some, Option.toList_some, Option.toList_none, List.cons_append, List.nil_append, true_or, or_true, if_true, if_false, i10, i01, Bool.false_eq_true]
      exact ih
    · have e1 : ¬ nI a = nI b := by rw [eqN (by omega) (by omega)]; exact hab
      have i1 : oob (nI (6 * a + b)) 36 = false := oob_nI (by omega) (by omega)
      have j1 : (nI (6 * a + b)).toNatClampNeg = 6 * a + b := clN (by omega)
      have hc := c_change (d := d) (σ := sw σ 16 q (mp2 n K F A a b)) (q := q) (n := n) (F := F) (a := a) (b := b) (fun x hx => by rw [ar_sw_t (by decide)]; exact hF x hx) h6 hv ha hb
      rw [ar_sw_t (by decide), hK] at hc
      rw [← mp2_step h6 hb hab] at ih
      simp only [s86_20, s86_25, s86_34, s86_43, s86_44, s86_50, s86_54, s86_55, e1, c_cell, mul6N, addN, i1, j1, hc, c_bounded, mp2_at (show b < 6 by omega), add1N, Option.bind_some, Option.toList_some, Option.toList_none, List.cons_append, List.nil_append, true_or, or_true, if_true, if_false, i10, i01, Bool.false_eq_true, ar_sw_t, ar_sw_s, se_def, sw_sw, ne_eq, not_false_eq_true, Nat.reduceEqDiff]
      exact ih
  · rw [s86_12, ar_sw_t (by decide), hn, if_neg nlt, s86_61, add1N, mp2_row h6]
theorem c_changeAngers' (hn : ar σ 5 q 7 = nI n) (h6 : n ≤ 6) (hF : ∀ a, a < n → ar σ 13 q a = en (F a)) (hv : ∀ a b, F a = some b → b < n) (hA : ar σ 16 q = A) (hK : ar σ 11 q = K) (hW : ar σ 17 q = W) (hFp : F = pick n K W A) :
    call (d + 2) 86 [vR 5 q] σ = some (some (vI (nI (trn n K W A))), sw (sw σ 16 q (mor n K W A)) 13 q (fun a => if a < n then en (pick n K W (mor n K W A) a) else ar σ 13 q a)) := by
  rw [s86_e, s86_0]
  have key := down0 (Pr := fun a => ∀ v2 : IV, exec (d + 2) 86 2 [vR 5 q, vI (nI a), v2] [] (sw σ 16 q (mp2 n K F A a 0)) = some (some (vI (nI (trn n K W A))), sw (sw σ 16 q (mor n K W A)) 13 q (fun a => if a < n then en (pick n K W (mor n K W A) a) else ar σ 13 q a))) n (fun a ha ih v2 => ?_) (fun v2 => ?_)
  · have e0 : sw σ 16 q (mp2 n K F A 0 0) = σ := sw_id (by rw [mp2_0]; exact hA.symm)
    have := key vN
    rw [e0] at this
    exact this
  · rw [s86_2, ar_sw_t (by decide), hn, if_pos (ltn ha (by omega)), s86_10]
    rw [l_changeRow hn h6 hF hv hA hK ha]
    exact ih _
  · rw [s86_2, ar_sw_t (by decide), hn, if_neg nlt]
    have ht := c_turnAll (d := d) (σ := sw σ 16 q (mp2 n K F A n 0)) (q := q) (n := n) (F := F) (by rw [ar_sw_t (by decide)]; exact hn) h6 (fun x hx => by rw [ar_sw_t (by decide)]; exact hF x hx) hv
    simp only [ar_sw_t, ar_sw_s, ne_eq, Nat.reduceEqDiff, not_false_eq_true, hK, hW] at ht
    rw [hFp, mp2_n] at ht
    rw [hFp, mp2_n]
    simp only [s86_67, s86_71, ht, Option.bind_some, Option.toList_some, Option.toList_none, List.cons_append, List.nil_append, true_or, or_true, if_true, if_false, i10, i01, Bool.false_eq_true]
    rfl
theorem c_changeAngers (h6 : n ≤ 6) (h : Lv σ q n K W A) : ∃ σ', call (d + 2) 86 [vR 5 q] σ = some (some (vI (nI (trn n K W A))), σ') ∧ Lv σ' q n K W (mor n K W A) ∧ Ag (SA q) σ σ' := by
  obtain ⟨hn, hK, hW, hA, hF⟩ := h
  refine ⟨_, c_changeAngers' hn h6 hF (fun a b h => pick_lt h) hA hK hW rfl, ⟨?_, ?_, ?_, ?_, fun a ha => ?_⟩, ?_⟩
  · rw [ar_sw_t (by decide), ar_sw_t (by decide)]; exact hn
  · rw [ar_sw_t (by decide), ar_sw_t (by decide)]; exact hK
  · rw [ar_sw_t (by decide), ar_sw_t (by decide)]; exact hW
  · rw [ar_sw_t (by decide), ar_sw_s]
  · rw [ar_sw_s, if_pos ha]
  · exact (Ag.sw ⟨rfl, Or.inl rfl⟩).tr (Ag.sw ⟨rfl, Or.inr rfl⟩)
theorem c_letPass (h6 : n ≤ 6) : ∀ (m : Nat), m ≤ 1000 → ∀ (σ : St) (A : Nat → Int32), Lv σ q n K W A → ∃ σ', call (d + 3) 87 [vR 5 q, vI (nI m)] σ = some (none, σ') ∧ Lv σ' q n K W (morN n K W m A) ∧ Ag (SA q) σ σ' := by
  intro m hm
  have key : ∀ (r i : Nat), i + r = m → ∀ (σ : St) (A : Nat → Int32), Lv σ q n K W A → ∃ σ', exec (d + 3) 87 2 [vR 5 q, vI (nI m), vI (nI i)] [] σ = some (none, σ') ∧ Lv σ' q n K W (morN n K W r A) ∧ Ag (SA q) σ σ' := by
    intro r
    induction r with
    | zero =>
      intro i hi σ A h
      have e : i = m := by omega
      subst e
      exact ⟨σ, by rw [s87_2, if_neg nlt, s87_18], h, Ag.rf⟩
    | succ r ih =>
      intro i hi σ A h
      obtain ⟨σ1, e1, h1, g1⟩ := c_changeAngers (d := d) h6 h
      obtain ⟨σ2, e2, h2, g2⟩ := ih (i + 1) (by omega) σ1 _ h1
      refine ⟨σ2, ?_, h2, g1.tr g2⟩
      rw [s87_2, if_pos (ltn (by omega) (by omega))]
      simp only [s87_7, s87_11, e1, add1N, Option.bind_some, Option.toList_some, Option.toList_none, List.cons_append, List.nil_append, true_or, or_true, if_true, if_false, i10, i01, Bool.false_eq_true]
      exact e2
  intro σ A h
  obtain ⟨σ', e, h1, h2⟩ := key m 0 (by omega) σ A h
  exact ⟨σ', by rw [s87_e, s87_0]; exact e, h1, h2⟩
theorem c_setAnger {a b : Nat} {x : Int32} (h6 : n ≤ 6) (ha : a < n) (hb : b < n) (h : Lv σ q n K W A) : ∃ σ', call (d + 1) 80 [vR 5 q, vI (nI a), vI (nI b), vI x] σ = some (none, σ') ∧ Lv σ' q n K W (upd A (6 * a + b) (bd x)) ∧ Ag (SA q) σ σ' := by
  obtain ⟨hn, hK, hW, hA, hF⟩ := h
  have i1 : oob (nI (6 * a + b)) 36 = false := oob_nI (by omega) (by omega)
  have j1 : (nI (6 * a + b)).toNatClampNeg = 6 * a + b := clN (by omega)
  have hp := c_pickFront (d := d) (σ := sw σ 16 q (upd A (6 * a + b) (bd x))) (q := q) (n := n) (a := a) (by rw [ar_sw_t (by decide)]; exact hn) h6 (by omega)
  rw [ar_sw_t (by decide), ar_sw_t (by decide), ar_sw_s, hK, hW] at hp
  refine ⟨sw (sw σ 16 q (upd A (6 * a + b) (bd x))) 13 q (upd (ar σ 13 q) a (en (pick n K W (upd A (6 * a + b) (bd x)) a))), ?_, ⟨?_, ?_, ?_, ?_, fun c hc => ?_⟩, (Ag.sw ⟨rfl, Or.inl rfl⟩).tr (Ag.sw ⟨rfl, Or.inr rfl⟩)⟩
  · simp only [s80_e, s80_0, s80_9, s80_13, s80_14, s80_24, s80_25, c_cell, c_bounded, mul6N, addN, i1, j1, oob_nI (show a < 6 by omega) (by decide), cl6 (show a < 6 by omega), hA, hp, Option.bind_some, Option.toList_some, Option.toList_none, List.cons_append, List.nil_append, true_or, or_true, if_true, if_false, i10, i01, Bool.false_eq_true, ar_sw_t, ar_sw_s, se_def, sw_sw, ne_eq, not_false_eq_true, Nat.reduceEqDiff]
  · rw [ar_sw_t (by decide), ar_sw_t (by decide)]; exact hn
  · rw [ar_sw_t (by decide), ar_sw_t (by decide)]; exact hK
  · rw [ar_sw_t (by decide), ar_sw_t (by decide)]; exact hW
  · rw [ar_sw_t (by decide), ar_sw_s]
  · rw [ar_sw_s, upd_if]
    by_cases e : c = a
    · rw [if_pos e, e]
    · rw [if_neg e, hF c hc]
      exact congrArg en (pick_ext rfl (fun _ _ => rfl) (fun y hy => by rw [upd_n (by omega)]))
theorem c_provoke {a b : Nat} {x : Int32} (h6 : n ≤ 6) (ha : a < n) (hb : b < n) (h : Lv σ q n K W A) : ∃ σ', call (d + 2) 79 [vR 5 q, vI (nI a), vI (nI b), vI x] σ = some (none, σ') ∧ Lv σ' q n K W (upd A (6 * a + b) (bd (A (6 * a + b) + x))) ∧ Ag (SA q) σ σ' := by
  have i1 : oob (nI (6 * a + b)) 36 = false := oob_nI (by omega) (by omega)
  have j1 : (nI (6 * a + b)).toNatClampNeg = 6 * a + b := clN (by omega)
  obtain ⟨σ', e1, h1, g1⟩ := c_setAnger (d := d) (x := A (6 * a + b) + x) h6 ha hb h
  refine ⟨σ', ?_, h1, g1⟩
  simp only [s79_e, s79_0, s79_12, s79_13, s79_18, c_cell, mul6N, addN, i1, j1, h.2.2.2.1, e1, Option.bind_some, Option.toList_some, Option.toList_none, List.cons_append, List.nil_append, true_or, or_true, if_true, if_false, i10, i01, Bool.false_eq_true]
theorem bd_0 : bd 0 = 0 := by decide
theorem c_reconcile {a b : Nat} (h6 : n ≤ 6) (ha : a < n) (hb : b < n) (h : Lv σ q n K W A) : ∃ σ', call (d + 2) 81 [vR 5 q, vI (nI a), vI (nI b)] σ = some (none, σ') ∧ Lv σ' q n K W (upd (upd A (6 * a + b) 0) (6 * b + a) 0) ∧ Ag (SA q) σ σ' := by
  obtain ⟨σ1, e1, h1, g1⟩ := c_setAnger (d := d) (x := 0) h6 ha hb h
  obtain ⟨σ2, e2, h2, g2⟩ := c_setAnger (d := d) (x := 0) h6 hb ha h1
  rw [bd_0] at h2
  refine ⟨σ2, ?_, h2, g1.tr g2⟩
  simp only [s81_e, s81_0, s81_7, s81_14, e1, e2, Option.bind_some, Option.toList_some, Option.toList_none, List.cons_append, List.nil_append, true_or, or_true, if_true, if_false, i10, i01, Bool.false_eq_true]
theorem c_setWall {a b : Nat} {w : Int32} (h6 : n ≤ 6) (ha : a < n) (hb : b < n) (h : Lv σ q n K W A) : ∃ σ', call (d + 1) 82 [vR 5 q, vI (nI a), vI (nI b), vI w] σ = some (none, σ') ∧ Lv σ' q n K (upd (upd W (6 * a + b) w) (6 * b + a) w) A ∧ Ag (fun t q' => q' = q ∧ (t = 17 ∨ t = 13)) σ σ' := by
  obtain ⟨hn, hK, hW, hA, hF⟩ := h
  have i1 : oob (nI (6 * a + b)) 36 = false := oob_nI (by omega) (by omega)
  have j1 : (nI (6 * a + b)).toNatClampNeg = 6 * a + b := clN (by omega)
  have i2 : oob (nI (6 * b + a)) 36 = false := oob_nI (by omega) (by omega)
  have j2 : (nI (6 * b + a)).toNatClampNeg = 6 * b + a := clN (by omega)
  have hp := fun (x : Nat) (hx : x < 6) (f : Nat → Int32) => c_pickFront (d := d) (σ := sw (sw σ 17 q (upd (upd W (6 * a + b) w) (6 * b + a) w)) 13 q f) (q := q) (n := n) (a := x) (by rw [ar_sw_t (by decide), ar_sw_t (by decide)]; exact hn) h6 hx
  have hp0 := c_pickFront (d := d) (σ := sw σ 17 q (upd (upd W (6 * a + b) w) (6 * b + a) w)) (q := q) (n := n) (a := a) (by rw [ar_sw_t (by decide)]; exact hn) h6 (by omega)
  simp only [ar_sw_t, ar_sw_s, ne_eq, not_false_eq_true, hK, hA, Nat.reduceEqDiff] at hp hp0
  refine ⟨sw (sw σ 17 q (upd (upd W (6 * a + b) w) (6 * b + a) w)) 13 q (upd (upd (ar σ 13 q) a (en (pick n K (upd (upd W (6 * a + b) w) (6 * b + a) w) A a))) b (en (pick n K (upd (upd W (6 * a + b) w) (6 * b + a) w) A b))), ?_, ⟨?_, ?_, ?_, ?_, fun c hc => ?_⟩, (Ag.sw ⟨rfl, Or.inl rfl⟩).tr (Ag.sw ⟨rfl, Or.inr rfl⟩)⟩
  · simp only [s82_e, s82_0, s82_9, s82_11, s82_20, s82_22, s82_32, s82_33, s82_43, s82_44, c_cell, mul6N, addN, i1, j1, i2, j2, oob_nI (show a < 6 by omega) (by decide), cl6 (show a < 6 by omega), oob_nI (show b < 6 by omega) (by decide), cl6 (show b < 6 by omega), hW, hp0, hp b (by omega), Option.bind_some, Option.toList_some, Option.toList_none, List.cons_append, List.nil_append, true_or, or_true, if_true, if_false, i10, i01, Bool.false_eq_true, ar_sw_t, ar_sw_s, se_def, sw_sw, ne_eq, not_false_eq_true, Nat.reduceEqDiff]
  · rw [ar_sw_t (by decide), ar_sw_t (by decide)]; exact hn
  · rw [ar_sw_t (by decide), ar_sw_t (by decide)]; exact hK
  · rw [ar_sw_t (by decide), ar_sw_s]
  · rw [ar_sw_t (by decide), ar_sw_t (by decide)]; exact hA
  · rw [ar_sw_s, upd_if]
    by_cases e : c = b
    · rw [if_pos e, e]
    · rw [if_neg e, upd_if]
      by_cases e2 : c = a
      · rw [if_pos e2, e2]
      · rw [if_neg e2, hF c hc]
        exact congrArg en (pick_ext rfl (fun y hy => by rw [upd_n (by omega), upd_n (by omega)]) (fun _ _ => rfl))
end SQ3

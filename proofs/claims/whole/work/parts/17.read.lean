/-! Reading a square from the page. -/
section RD
variable {d : Nat} {σ : St} {q L : Nat} {p : Nat → Nat}
theorem c_fill {t : Nat} {x : Int32} (ht : t < 60) (h0 : 0 < lenT t) (h1 : lenT t ≤ 1000) : call d 224 [vR t q, vI x] σ = some (none, sw σ t q (fun j => if j < lenT t then x else ar σ t q j)) := by
  rw [s224_e, s224_0 ht h0]
  have key := down0 (Pr := fun b => exec d 224 5 [vR t q, vI x, vI (nI b), vI (nI (lenT t))] [] (sw σ t q (fun j => if j < b then x else ar σ t q j)) = some (none, sw σ t q (fun j => if j < lenT t then x else ar σ t q j))) (lenT t) (fun b hb ih => ?_) ?_
  · have e0 : sw σ t q (fun j => if j < 0 then x else ar σ t q j) = σ := sw_id (by funext j; rw [if_neg (by omega)])
    have key : exec d 224 5 [vR t q, vI x, vI (nI 0), vI (nI (lenT t))] [] (sw σ t q (fun j => if j < 0 then x else ar σ t q j)) = _ := key
    rw [e0] at key
    exact key
  · have e1 : upd (fun j => if j < b then x else ar σ t q j) b x = (fun j => if j < b + 1 then x else ar σ t q j) := by
      funext j
      rw [upd_if]
      by_cases hj : j = b
      · rw [if_pos hj, if_pos (by omega)]
      · rw [if_neg hj]
        by_cases hj2 : j < b
        · rw [if_pos hj2, if_pos (by omega)]
        · rw [if_neg hj2, if_neg (by omega)]
    rw [s224_5, if_pos (ltn hb (by omega))]
    simp only [s224_10, s224_14, oob_nI hb h1, clN (show b ≤ 100000 by omega), add1N, Option.bind_some, Option.toList_some, Option.toList_none, List.cons_append, List.nil_append, true_or, or_true, if_true, if_false, i10, i01, Bool.false_eq_true, se_def, ar_sw_s, sw_sw, e1]
    exact ih
  · rw [s224_5, if_neg nlt, s224_20]
theorem c_fill0 {t : Nat} (hw : Wf σ) (ht : t < 60) (ht2 : 10 ≤ t) (h0 : 0 < lenT t) (h1 : lenT t ≤ 1000) : call d 224 [vR t q, vI 0] σ = some (none, sw σ t q (fun _ => 0)) := by
  rw [c_fill ht h0 h1]
  congr 3
  funext j
  by_cases hj : j < lenT t
  · rw [if_pos hj]
  · rw [if_neg hj, hw t q j ht2 (by omega)]
theorem c_pageAdd {c : Nat} (h : PgAt σ L p) (hL : L < 38) (hc1 : 1 ≤ c) (hc : c < 127) : ∃ σ', call (d + 1) 17 [vR 2 0, vI (nI c)] σ = some (some (vI (nI (L + 1))), σ') ∧ PgAt σ' (L + 1) (fun j => if j = L then c else p j) ∧ Ag (fun t q' => (t = 2 ∨ t = 10) ∧ q' = 0) σ σ' := by
  have hf := c_isFull (d := d) h
  rw [if_neg (show ¬ L = 38 by omega)] at hf
  refine ⟨se (se σ 10 0 L (nI c)) 2 0 1 (nI (L + 1)), ?_, ⟨?_, by omega, fun j hj => ?_⟩, (Ag.sw ⟨Or.inr rfl, rfl⟩).tr (Ag.sw ⟨Or.inl rfl, rfl⟩)⟩
  · simp only [s17_e, s17_0, s17_4, s17_7, s17_17, s17_27, hf, h.1, oob_nI hL (by decide), clN (show L ≤ 100000 by omega), Option.bind_some, Option.toList_some, Option.toList_none, List.cons_append, List.nil_append, true_or, or_true, if_true, if_false, i10, i01, Bool.false_eq_true, ar_sw_t, ar_sw_s, se_def, sw_sw, ne_eq, not_false_eq_true, Nat.reduceEqDiff, add1N, upd_s]
  · simp only [ar_sw_t, ar_sw_s, se_def, sw_sw, ne_eq, not_false_eq_true, Nat.reduceEqDiff, upd_s]
  · simp only [ar_sw_t, ar_sw_s, se_def, sw_sw, ne_eq, not_false_eq_true, Nat.reduceEqDiff, upd_if]
    by_cases e : j = L
    · rw [if_pos e, if_pos e]; exact ⟨rfl, hc1, hc⟩
    · rw [if_neg e, if_neg e]; exact h.2.2 j (by omega)
theorem c_pageClear (h : PgAt σ L p) : ∃ σ', call d 18 [vR 2 0] σ = some (some (vI (nI L)), σ') ∧ PgAt σ' 0 p ∧ Ag (fun t q' => t = 2 ∧ q' = 0) σ σ' := by
  refine ⟨se σ 2 0 1 0, by simp only [s18_e, s18_0, h.1], ⟨?_, by omega, fun j hj => by omega⟩, Ag.sw ⟨rfl, rfl⟩⟩
  simp only [ar_sw_t, ar_sw_s, se_def, sw_sw, ne_eq, not_false_eq_true, Nat.reduceEqDiff, upd_s]
  rfl
theorem dg_59 : dg 59 = none := by decide
theorem fitA_ne {e k : Nat} (h : fitA p e k = true) : p k ≠ 59 := by
  intro z
  rw [fitA_n (by rw [z]; exact dg_59)] at h
  cases h
theorem flt_some : ∀ {m x k : Nat} {o : Option Nat}, flt p m (some x) k = (k + m, o) → o = some x ∧ ∀ j, k ≤ j → j < k + m → fitA p x j = true
  | 0, x, k, o, h => by
    rw [flt] at h
    cases h
    exact ⟨rfl, fun j h1 h2 => by omega⟩
  | m + 1, x, k, o, h => by
    rw [flt] at h
    by_cases hf : fits p (some x) k = true
    · rw [if_pos hf, if_neg (fitA_ne hf)] at h
      obtain ⟨h1, h2⟩ := flt_some (m := m) (x := x) (k := k + 1) (o := o) (by rw [h]; congr 1; omega)
      refine ⟨h1, fun j hj1 hj2 => ?_⟩
      by_cases e : j = k
      · rw [e]; exact hf
      · exact h2 j (by omega) (by omega)
    · rw [if_neg hf] at h
      have := congrArg Prod.fst h
      simp at this
theorem flt_none : ∀ {m k : Nat} {o : Option Nat}, flt p m none k = (k + m, o) → hse p m k = o ∧ ∀ e, o = some e → k ≤ e ∧ e < k + m ∧ p e = 59 ∧ (∀ j, k ≤ j → j ≤ e → fitH p j = true) ∧ (∀ j, k ≤ j → j < e → p j ≠ 59) ∧ ∀ j, e < j → j < k + m → fitA p e j = true
  | 0, k, o, h => by
    rw [flt] at h
    cases h
    exact ⟨rfl, fun e he => by cases he⟩
  | m + 1, k, o, h => by
    rw [flt] at h
    by_cases hf : fits p none k = true
    · rw [if_pos hf] at h
      by_cases c : p k = 59
      · rw [if_pos c] at h
        obtain ⟨h1, h2⟩ := flt_some (m := m) (x := k) (k := k + 1) (o := o) (by rw [h]; congr 1; omega)
        refine ⟨by rw [hse, if_pos c, h1], fun e he => ?_⟩
        rw [h1] at he
        cases he
        exact ⟨Nat.le_refl _, by omega, c, fun j hj1 hj2 => by rw [show j = k by omega]; exact hf, fun j hj1 hj2 => by omega, fun j hj1 hj2 => h2 j (by omega) (by omega)⟩
      · rw [if_neg c] at h
        obtain ⟨h1, h2⟩ := flt_none (m := m) (k := k + 1) (o := o) (by rw [h]; congr 1; omega)
        refine ⟨by rw [hse, if_neg c, h1], fun e he => ?_⟩
        obtain ⟨a1, a2, a3, a4, a5, a6⟩ := h2 e he
        refine ⟨by omega, by omega, a3, fun j hj1 hj2 => ?_, fun j hj1 hj2 => ?_, fun j hj1 hj2 => a6 j hj1 (by omega)⟩
        · by_cases e2 : j = k
          · rw [e2]; exact hf
          · exact a4 j (by omega) hj2
        · by_cases e2 : j = k
          · rw [e2]; exact c
          · exact a5 j (by omega) hj2
    · rw [if_neg hf] at h
      have := congrArg Prod.fst h
      simp at this
/-- where the houses end of a page that is a square -/
def isSq (p : Nat → Nat) (L : Nat) : Option Nat := if (flt p L none 0).1 = L then (match (flt p L none 0).2 with
  | some e => if (L - e - 1) % 3 = 0 then some e else none
  | none => none) else none
theorem isSq_some {e : Nat} (h : isSq p L = some e) : flt p L none 0 = (L, some e) ∧ (L - e - 1) % 3 = 0 := by
  unfold isSq at h
  by_cases c1 : (flt p L none 0).1 = L
  · rw [if_pos c1] at h
    cases c2 : (flt p L none 0).2 with
    | none => rw [c2] at h; cases h
    | some x =>
      rw [c2] at h
      dsimp only at h
      split at h
      · cases h
        rename_i c3
        exact ⟨Prod.ext c1 c2, c3⟩
      · cases h
  · rw [if_neg c1] at h; cases h
theorem isSq_facts {e : Nat} (hp : ∀ j, j < L → p j < 127) (h : isSq p L = some e) : e < L ∧ e % 3 = 2 ∧ 8 ≤ e ∧ e ≤ 17 ∧ p e = 59 ∧ hse p L 0 = some e ∧ (∀ a, a < e / 3 + 1 → (∃ k, kd (p (3 * a)) = some k) ∧ (∃ k, dg (p (3 * a + 1)) = some k)) ∧ (∀ j, e < j → j < L → fitA p e j = true) ∧ L ≤ e + 19 ∧ (L - e - 1) % 3 = 0 := by
  obtain ⟨h1, h2⟩ := isSq_some h
  obtain ⟨h3, h4⟩ := flt_none (p := p) (m := L) (k := 0) (o := some e) (by rw [h1, Nat.zero_add])
  obtain ⟨-, a2, a3, a4, a5, a6⟩ := h4 e rfl
  have he := a4 e (by omega) (by omega)
  have hm : e % 3 = 2 ∧ 3 ≤ e / 3 + 1 := by
    unfold fitH at he
    rw [a3] at he
    by_cases m0 : e % 3 = 0
    · rw [if_pos m0] at he; exact absurd he (by decide)
    · rw [if_neg m0] at he
      by_cases m1 : e % 3 = 1
      · rw [if_pos m1] at he; exact absurd he (by decide)
      · rw [if_neg m1, decide_eq_true_eq] at he
        omega
  have h17 : e ≤ 17 := by
    apply Classical.byContradiction
    intro hgt
    have hc := a4 17 (by omega) (by omega)
    have hc2 := a5 17 (by omega) (by omega)
    unfold fitH at hc
    rw [if_neg (by omega), if_neg (by omega), decide_eq_true_eq] at hc
    omega
  refine ⟨by omega, hm.1, by omega, h17, a3, h3, fun a ha => ⟨?_, ?_⟩, fun j hj1 hj2 => a6 j hj1 (by omega), ?_, h2⟩
  · have := a4 (3 * a) (by omega) (by omega)
    unfold fitH at this
    rw [if_pos (by omega)] at this
    exact Option.isSome_iff_exists.mp this
  · have := a4 (3 * a + 1) (by omega) (by omega)
    unfold fitH at this
    rw [if_neg (by omega), if_pos (by omega)] at this
    exact Option.isSome_iff_exists.mp this
  · apply Classical.byContradiction
    intro hgt
    have := a6 (e + 19) (by omega) (by omega)
    unfold fitA at this
    cases hd : dg (p (e + 19)) with
    | none => rw [hd] at this; cases this
    | some g => rw [hd] at this; dsimp only at this; rw [if_pos (by omega)] at this; cases this
/-- what is told: whose anger, at whom, how much -/
theorem told_facts {e i : Nat} (hp : ∀ j, j < L → p j < 127) (h : isSq p L = some e) (hi : i < (L - e - 1) / 3) : ∃ x y g, x < e / 3 + 1 ∧ y < e / 3 + 1 ∧ x ≠ y ∧ 0 < g ∧ g < 10 ∧ p (e + 1 + 3 * i) = 48 + x ∧ p (e + 1 + 3 * i + 1) = 48 + y ∧ p (e + 1 + 3 * i + 2) = 48 + g := by
  obtain ⟨a1, a2, a3, a4, a5, a6, a7, a8, a9, a10⟩ := isSq_facts hp h
  have f0 := a8 (e + 1 + 3 * i) (by omega) (by omega)
  have f1 := a8 (e + 1 + 3 * i + 1) (by omega) (by omega)
  have f2 := a8 (e + 1 + 3 * i + 2) (by omega) (by omega)
  cases d0 : dg (p (e + 1 + 3 * i)) with
  | none => rw [fitA_n d0] at f0; cases f0
  | some x =>
    cases d1 : dg (p (e + 1 + 3 * i + 1)) with
    | none => rw [fitA_n d1] at f1; cases f1
    | some y =>
      cases d2 : dg (p (e + 1 + 3 * i + 2)) with
      | none => rw [fitA_n d2] at f2; cases f2
      | some g =>
        rw [fitA_s d0, if_neg (by omega), if_pos (by omega), decide_eq_true_eq] at f0
        rw [fitA_s d1, if_neg (by omega), if_neg (by omega), if_pos (by omega), decide_eq_true_eq, show e + 1 + 3 * i + 1 - 1 = e + 1 + 3 * i by omega] at f1
        rw [fitA_s d2, if_neg (by omega), if_neg (by omega), if_neg (by omega), decide_eq_true_eq] at f2
        have l0 := dg_lt d0
        have l1 := dg_lt d1
        have l2 := dg_lt d2
        exact ⟨x, y, g, f0, f1.1, by omega, f2, l2.1, l0.2, l1.2, l2.2⟩
theorem c_isSquare (h : PgAt σ L p) : call (d + 8) 20 [vR 2 0] σ = some (some (vI (if (isSq p L).isSome = true then 1 else 0)), σ) := by
  have h38 := h.2.1
  have hfl : (flt p L none 0).1 ≤ L := by
    have : ∀ m e k, (flt p m e k).1 ≤ k + m := by
      intro m
      induction m with
      | zero => intro e k; exact Nat.le_refl _
      | succ m ih =>
        intro e k
        rw [flt]
        split
        · have := ih (if p k = 59 then some k else e) (k + 1); omega
        · show k ≤ _; omega
    have := this L none 0
    omega
  have e1 : (nI (flt p L none 0).1 = nI L) = ((flt p L none 0).1 = L) := eqN (by omega) (by omega)
  by_cases c1 : (flt p L none 0).1 = L
  · obtain ⟨h3, h4⟩ := flt_none (p := p) (m := L) (k := 0) (o := (flt p L none 0).2) (Prod.ext (by rw [Nat.zero_add]; exact c1) rfl)
    have e1' := e1.trans (eq_true c1)
    cases c2 : (flt p L none 0).2 with
    | none =>
      have hs : isSq p L = none := by unfold isSq; rw [if_pos c1, c2]
      rw [hs]
      rw [c2] at h3
      simp only [s20_e, s20_0, s20_4, s20_9, s20_16, s20_21, s20_34, s20_38, s20_39, c_housesEnd h, c_faultPlace h, h.1, h3, e1', en_none, Option.isSome_none, Option.bind_some, Option.toList_some, Option.toList_none, List.cons_append, List.nil_append, true_or, or_true, if_true, if_false, i10, i01, Bool.false_eq_true]
    | some e =>
      rw [c2] at h3 h4
      have he := (h4 e rfl).2.1
      have e3 : nI L - nI e - 1 - (nI L - nI e - 1) / 3 * 3 = nI ((L - e - 1) % 3) := by rw [sub2N (by omega), modN (by omega)]
      have e4 : (nI ((L - e - 1) % 3) = 0) = ((L - e - 1) % 3 = 0) := by rw [show (0 : Int32) = nI 0 from rfl, eqN (by omega) (by omega)]
      by_cases c3 : (L - e - 1) % 3 = 0
      · have hs : isSq p L = some e := by unfold isSq; rw [if_pos c1, c2]; dsimp only; rw [if_pos c3]
        rw [hs]
        simp only [s20_e, s20_0, s20_4, s20_9, s20_16, s20_21, s20_34, s20_38, s20_39, c_housesEnd h, c_faultPlace h, h.1, h3, e1', en_some, n1N (show e ≤ 100000 by omega), e3, e4.trans (eq_true c3), Option.isSome_some, Option.bind_some, Option.toList_some, Option.toList_none, List.cons_append, List.nil_append, true_or, or_true, if_true, if_false, i10, i01, Bool.false_eq_true]
      · have hs : isSq p L = none := by unfold isSq; rw [if_pos c1, c2]; dsimp only; rw [if_neg c3]
        rw [hs]
        simp only [s20_e, s20_0, s20_4, s20_9, s20_16, s20_21, s20_34, s20_38, s20_39, c_housesEnd h, c_faultPlace h, h.1, h3, e1', en_some, n1N (show e ≤ 100000 by omega), e3, e4.trans (eq_false c3), Option.isSome_none, Option.bind_some, Option.toList_some, Option.toList_none, List.cons_append, List.nil_append, true_or, or_true, if_true, if_false, i10, i01, Bool.false_eq_true]
  · have hs : isSq p L = none := by unfold isSq; rw [if_neg c1]
    rw [hs]
    simp only [s20_e, s20_0, s20_4, s20_9, s20_16, s20_21, s20_34, s20_38, s20_39, c_housesEnd h, c_faultPlace h, h.1, e1.trans (eq_false c1), Option.isSome_none, Option.bind_some, Option.toList_some, Option.toList_none, List.cons_append, List.nil_append, true_or, or_true, if_true, if_false, i10, i01, Bool.false_eq_true]
variable {e : Nat}
theorem PgAt.lt (h : PgAt σ L p) : ∀ j, j < L → p j < 127 := fun j hj => (h.2.2 j hj).2.2
theorem c_countHouses (h : PgAt σ L p) (hs : isSq p L = some e) : call (d + 1) 25 [vR 2 0] σ = some (some (vI (nI (e / 3 + 1))), σ) := by
  obtain ⟨a1, a2, a3, a4, a5, a6, a7, a8, a9, a10⟩ := isSq_facts h.lt hs
  have e1 : nI e / 3 + 1 = nI (e / 3 + 1) := by rw [divN (by omega), add1N]
  have e2 : ((6 : Int32) < nI (e / 3 + 1)) = False := by rw [show (6 : Int32) = nI 6 from rfl, ltN (by omega) (by omega)]; exact eq_false (by omega)
  simp only [s25_e, s25_0, s25_4, c_housesEnd h, a6, en_some, e1, e2, Option.bind_some, Option.toList_some, Option.toList_none, List.cons_append, List.nil_append, true_or, or_true, if_true, if_false, i10, i01, Bool.false_eq_true]
theorem c_pageKind {a k : Nat} (h : PgAt σ L p) (ha : 3 * a < L) (hk : kd (p (3 * a)) = some k) : call (d + 6) 26 [vR 2 0, vI (nI a)] σ = some (some (vI (nI k)), σ) := by
  have h38 := h.2.1
  have hk5 := kd_lt hk
  have e1 : (3 : Int32) * nI a = nI (3 * a) := mul3N' a
  simp only [s26_e, s26_0, s26_7, s26_10, e1, c_letterAt h ha, c_kindNamed (h.lt _ ha), hk, en_some, lt0N (show k ≤ 100000 by omega), Option.bind_some, Option.toList_some, Option.toList_none, List.cons_append, List.nil_append, true_or, or_true, if_true, if_false, i10, i01, Bool.false_eq_true]
theorem c_pageView {a k : Nat} (h : PgAt σ L p) (ha : 3 * a + 1 < L) (hk : dg (p (3 * a + 1)) = some k) : call (d + 1) 27 [vR 2 0, vI (nI a)] σ = some (some (vI (nI k)), σ) := by
  have e1 : (3 : Int32) * nI a + 1 = nI (3 * a + 1) := by rw [mul3N', add1N]
  simp only [s27_e, s27_0, s27_9, s27_12, e1, c_letterAt h ha, c_digitOf (h.lt _ ha), hk, en_some, Option.bind_some, Option.toList_some, Option.toList_none, List.cons_append, List.nil_append, true_or, or_true, if_true, if_false, i10, i01, Bool.false_eq_true]
theorem c_countTold (h : PgAt σ L p) (hs : isSq p L = some e) : call (d + 1) 28 [vR 2 0] σ = some (some (vI (nI ((L - e - 1) / 3))), σ) := by
  have h38 := h.2.1
  obtain ⟨a1, a2, a3, a4, a5, a6, a7, a8, a9, a10⟩ := isSq_facts h.lt hs
  have e1 : (nI L - nI e - 1) / 3 = nI ((L - e - 1) / 3) := by rw [sub2N (by omega), divN (by omega)]
  simp only [s28_e, s28_0, s28_8, c_housesEnd h, a6, en_some, h.1, e1, Option.bind_some, Option.toList_some, Option.toList_none, List.cons_append, List.nil_append, true_or, or_true, if_true, if_false, i10, i01, Bool.false_eq_true]
theorem c_told {i k x : Nat} (h : PgAt σ L p) (hs : isSq p L = some e) (hi : e + 1 + 3 * i + k < L) (hx : p (e + 1 + 3 * i + k) = 48 + x) (hx9 : x < 10) : call (d + 1) 29 [vR 2 0, vI (nI i), vI (nI k)] σ = some (some (vI (nI x)), σ) := by
  have h38 := h.2.1
  obtain ⟨a1, a2, a3, a4, a5, a6, a7, a8, a9, a10⟩ := isSq_facts h.lt hs
  have e1 : nI e + 1 + 3 * nI i + nI k = nI (e + 1 + 3 * i + k) := by rw [add1N, mul3N', addN, addN]
  have e2 : dg (48 + x) = some x := by unfold dg; rw [if_pos (by omega)]; congr 1; omega
  simp only [s29_e, s29_0, s29_5, s29_16, s29_19, c_housesEnd h, a6, en_some, e1, c_letterAt h hi, c_digitOf (show 48 + x < 127 by omega), hx, e2, Option.bind_some, Option.toList_some, Option.toList_none, List.cons_append, List.nil_append, true_or, or_true, if_true, if_false, i10, i01, Bool.false_eq_true]
/-- angers as told -/
noncomputable def tA (p : Nat → Nat) (e : Nat) : Nat → Nat → Int32
  | 0 => fun _ => 0
  | i + 1 => upd (tA p e i) (6 * (p (e + 1 + 3 * i) - 48) + (p (e + 1 + 3 * i + 1) - 48)) (bd (tA p e i (6 * (p (e + 1 + 3 * i) - 48) + (p (e + 1 + 3 * i + 1) - 48)) + nI (p (e + 1 + 3 * i + 2) - 48)))
def rdK (p : Nat → Nat) (n : Nat) (K : Nat → Int32) : Nat → Int32 := fun a => if a < n then en (kd (p (3 * a))) else K a
def rdV (p : Nat → Nat) (n : Nat) (V : Nat → Int32) : Nat → Int32 := fun a => if a < n then en (dg (p (3 * a + 1))) else V a
/-- the square that a page is -/
noncomputable def rdS (p : Nat → Nat) (L e : Nat) (s : Sq) : Sq := (e / 3 + 1, rdK p (e / 3 + 1) (qK s), rdV p (e / 3 + 1) (qV s), fun _ => 0, fun _ => 0, tA p e ((L - e - 1) / 3), fun _ => 0, 0, 0, 0, 0)
theorem c_provoke0 {n a b : Nat} {x : Int32} {A : Nat → Int32} (h6 : n ≤ 6) (ha : a < n) (hb : b < n) (hn : ar σ 5 q 7 = nI n) (hA : ar σ 16 q = A) : ∃ σ', call (d + 2) 79 [vR 5 q, vI (nI a), vI (nI b), vI x] σ = some (none, σ') ∧ ar σ' 16 q = upd A (6 * a + b) (bd (A (6 * a + b) + x)) ∧ Ag (SA q) σ σ' := by
  have i1 : oob (nI (6 * a + b)) 36 = false := oob_nI (by omega) (by omega)
  have j1 : (nI (6 * a + b)).toNatClampNeg = 6 * a + b := clN (by omega)
  have hp := c_pickFront (d := d) (σ := sw σ 16 q (upd A (6 * a + b) (bd (A (6 * a + b) + x)))) (q := q) (n := n) (a := a) (by rw [ar_sw_t (by decide)]; exact hn) h6 (by omega)
  refine ⟨_, by simp only [s79_e, s79_0, s79_12, s79_13, s79_18, s80_e, s80_0, s80_9, s80_13, s80_14, s80_24, s80_25, c_cell, c_bounded, mul6N, addN, i1, j1, oob_nI (show a < 6 by omega) (by decide), cl6 (show a < 6 by omega), hA, hp, Option.bind_some, Option.toList_some, Option.toList_none, List.cons_append, List.nil_append, true_or, or_true, if_true, if_false, i10, i01, Bool.false_eq_true, ar_sw_t, ar_sw_s, se_def, sw_sw, ne_eq, not_false_eq_true, Nat.reduceEqDiff]; rfl, ?_, (Ag.sw ⟨rfl, Or.inl rfl⟩).tr (Ag.sw ⟨rfl, Or.inr rfl⟩)⟩
  simp only [ar_sw_t, ar_sw_s, se_def, sw_sw, ne_eq, not_false_eq_true, Nat.reduceEqDiff]
theorem c_turnAll0 {n : Nat} (hn : ar σ 5 q 7 = nI n) (h6 : n ≤ 6) :
    ∃ v, call (d + 1) 90 [vR 5 q] σ = some (some (vI v), sw σ 13 q (fun a => if a < n then en (pick n (ar σ 11 q) (ar σ 17 q) (ar σ 16 q) a) else ar σ 13 q a)) := by
  have key : ∀ m b, b + m = n → ∀ (x : Int32) (v3 : IV), ∃ v, exec (d + 1) 90 4 [vR 5 q, vI x, vI (nI b), v3] [] (sw σ 13 q (fun a => if a < b then en (pick n (ar σ 11 q) (ar σ 17 q) (ar σ 16 q) a) else ar σ 13 q a)) = some (some (vI v), sw σ 13 q (fun a => if a < n then en (pick n (ar σ 11 q) (ar σ 17 q) (ar σ 16 q) a) else ar σ 13 q a)) := by
    intro m
    induction m with
    | zero =>
      intro b hb x v3
      have e : b = n := by omega
      subst e
      exact ⟨x, by rw [s90_4, ar_sw_t (by decide), hn, if_neg nlt, s90_44]⟩
    | succ m ih =>
      intro b hb x v3
      have hn2 : ar (sw σ 13 q (fun a => if a < b then en (pick n (ar σ 11 q) (ar σ 17 q) (ar σ 16 q) a) else ar σ 13 q a)) 5 q 7 = nI n := by rw [ar_sw_t (by decide)]; exact hn
      have hp := c_pickFront (d := d) (a := b) hn2 h6 (show b < 6 by omega)
      rw [ar_sw_t (by decide), ar_sw_t (by decide), ar_sw_t (by decide)] at hp
      have e2 : upd (fun a => if a < b then en (pick n (ar σ 11 q) (ar σ 17 q) (ar σ 16 q) a) else ar σ 13 q a) b (en (pick n (ar σ 11 q) (ar σ 17 q) (ar σ 16 q) b)) = (fun a => if a < b + 1 then en (pick n (ar σ 11 q) (ar σ 17 q) (ar σ 16 q) a) else ar σ 13 q a) := by
        funext a
        rw [upd_if]
        by_cases h1 : a = b
        · subst h1; simp
        · by_cases h2 : a < b
          · simp [h1, h2, Nat.lt_succ_of_lt h2]
          · simp [h1, h2, show ¬ a < b + 1 by omega]
      rw [s90_4, hn2, if_pos (ltn (show b < n by omega) (by omega))]
      by_cases c1 : en (pick n (ar σ 11 q) (ar σ 17 q) (ar σ 16 q) b) = ar σ 13 q b
      · obtain ⟨v, hv⟩ := ih (b + 1) (by omega) x (vI (en (pick n (ar σ 11 q) (ar σ 17 q) (ar σ 16 q) b)))
        refine ⟨v, ?_⟩
        rw [← e2] at hv
        simp only [s90_0, s90_12, s90_17, s90_25, s90_28, s90_31, s90_38, s90_44, hp, oob_nI (show b < 6 by omega) (by decide), cl6 (show b < 6 by omega), Nat.lt_irrefl, eq_true c1, Option.bind_some, Option.toList_some, Option.toList_none, List.cons_append, List.nil_append, true_or, or_true, if_true, if_false, i10, i01, Bool.false_eq_true, ar_sw_t, ar_sw_s, se_def, sw_sw, ne_eq, not_false_eq_true, Nat.reduceEqDiff, add1N]
        exact hv
      · obtain ⟨v, hv⟩ := ih (b + 1) (by omega) (x + 1) (vI (en (pick n (ar σ 11 q) (ar σ 17 q) (ar σ 16 q) b)))
        refine ⟨v, ?_⟩
        rw [← e2] at hv
        simp only [s90_0, s90_12, s90_17, s90_25, s90_28, s90_31, s90_38, s90_44, hp, oob_nI (show b < 6 by omega) (by decide), cl6 (show b < 6 by omega), Nat.lt_irrefl, c1, Option.bind_some, Option.toList_some, Option.toList_none, List.cons_append, List.nil_append, true_or, or_true, if_true, if_false, i10, i01, Bool.false_eq_true, ar_sw_t, ar_sw_s, se_def, sw_sw, ne_eq, not_false_eq_true, Nat.reduceEqDiff, add1N]
        exact hv
  obtain ⟨v, hv⟩ := key n 0 (by omega) 0 vN
  refine ⟨v, ?_⟩
  have e0 : sw σ 13 q (fun a => if a < 0 then en (pick n (ar σ 11 q) (ar σ 17 q) (ar σ 16 q) a) else ar σ 13 q a) = σ := sw_id (by funext a; simp)
  rw [e0] at hv
  rw [s90_e, s90_0]
  exact hv
theorem PgAt.ag {S : Nat → Nat → Prop} {σ' : St} (h : PgAt σ L p) (hg : Ag S σ σ') (h2 : ¬ S 2 0) (h10 : ¬ S 10 0) : PgAt σ' L p := ⟨by rw [hg.1 _ _ h2]; exact h.1, h.2.1, fun j hj => by rw [hg.1 _ _ h10]; exact h.2.2 j hj⟩
theorem rdK_step {n a : Nat} {K : Nat → Int32} {k : Nat} (hk : kd (p (3 * a)) = some k) : upd (rdK p a K) a (nI k) = rdK p (a + 1) K := by
  funext j
  rw [upd_if]
  unfold rdK
  by_cases hj : j = a
  · rw [if_pos hj, if_pos (by omega), hj, hk, en_some]
  · rw [if_neg hj]
    by_cases hj2 : j < a
    · rw [if_pos hj2, if_pos (by omega)]
    · rw [if_neg hj2, if_neg (by omega)]
theorem rdV_step {n a : Nat} {K : Nat → Int32} {k : Nat} (hk : dg (p (3 * a + 1)) = some k) : upd (rdV p a K) a (nI k) = rdV p (a + 1) K := by
  funext j
  rw [upd_if]
  unfold rdV
  by_cases hj : j = a
  · rw [if_pos hj, if_pos (by omega), hj, hk, en_some]
  · rw [if_neg hj]
    by_cases hj2 : j < a
    · rw [if_pos hj2, if_pos (by omega)]
    · rw [if_neg hj2, if_neg (by omega)]
theorem rdK_0 {K : Nat → Int32} : rdK p 0 K = K := by
  funext j
  unfold rdK
  rw [if_neg (by omega)]
theorem rdV_0 {K : Nat → Int32} : rdV p 0 K = K := by
  funext j
  unfold rdV
  rw [if_neg (by omega)]
/-- the loop over what is told -/
theorem l_readTold (hs : isSq p L = some e) : ∀ m i, i + m = (L - e - 1) / 3 → ∀ (σ : St) (v3 v4 : IV), PgAt σ L p → ar σ 5 0 7 = nI (e / 3 + 1) → ar σ 16 0 = tA p e i → ∃ σ' v3' v4', exec (d + 8) 48 100 [vR 5 0, vR 2 0, vI (nI i), v3, v4] [] σ = exec (d + 8) 48 152 [vR 5 0, vR 2 0, vI (nI ((L - e - 1) / 3)), v3', v4'] [] σ' ∧ ar σ' 16 0 = tA p e ((L - e - 1) / 3) ∧ Ag (SA 0) σ σ' := by
  intro m
  induction m with
  | zero =>
    intro i hi σ v3 v4 h hn hA
    have e0 : i = (L - e - 1) / 3 := by omega
    subst e0
    refine ⟨σ, v3, v4, ?_, hA, Ag.rf⟩
    simp only [s48_100, s48_105, c_countTold h hs, Option.bind_some, Option.toList_some, Option.toList_none, List.cons_append, List.nil_append, true_or, or_true, if_true, if_false, i10, i01, Bool.false_eq_true, if_neg nlt]
  | succ m ih =>
    intro i hi σ v3 v4 h hn hA
    obtain ⟨a1, a2, a3, a4, a5, a6, a7, a8, a9, a10⟩ := isSq_facts h.lt hs
    have h38 := h.2.1
    obtain ⟨x, y, g, hx, hy, hxy, hg0, hg, p0, p1, p2⟩ := told_facts h.lt hs (show i < (L - e - 1) / 3 by omega)
    obtain ⟨σ1, e1, hA1, g1⟩ := c_provoke0 (d := d + 5) (x := nI g) (n := e / 3 + 1) (by omega) hx hy hn hA
    have hA1' : ar σ1 16 0 = tA p e (i + 1) := by
      rw [hA1, tA, p0, p1, p2, show 48 + x - 48 = x by omega, show 48 + y - 48 = y by omega, show 48 + g - 48 = g by omega]
    have n2 : ¬ SA 0 2 0 := by unfold SA; omega
    have n10 : ¬ SA 0 10 0 := by unfold SA; omega
    have n5 : ¬ SA 0 5 0 := by unfold SA; omega
    obtain ⟨σ', w3, w4, e2, hA2, g2⟩ := ih (i + 1) (by omega) σ1 (vI (nI x)) (vI (nI y)) (h.ag g1 n2 n10) (by rw [g1.1 _ _ n5]; exact hn) hA1'
    refine ⟨σ', w3, w4, ?_, hA2, g1.tr g2⟩
    have t0 : call (d + 7) 29 [vR 2 0, vI (nI i), vI 0] σ = some (some (vI (nI x)), σ) := c_told (k := 0) h hs (by omega) p0 (by omega)
    have t1 : call (d + 7) 29 [vR 2 0, vI (nI i), vI 1] σ = some (some (vI (nI y)), σ) := c_told (k := 1) h hs (by omega) p1 (by omega)
    have t2 : call (d + 7) 29 [vR 2 0, vI (nI i), vI 2] σ = some (some (vI (nI g)), σ) := c_told (k := 2) h hs (by omega) p2 (by omega)
    rw [s48_100]
    simp only [s48_105, s48_108, s48_114, s48_121, s48_130, s48_133, s48_143, s48_146, c_countTold h hs, Option.bind_some, Option.toList_some, Option.toList_none, List.cons_append, List.nil_append, true_or, or_true, if_true, if_false, i10, i01, Bool.false_eq_true, if_pos (ltn (show i < (L - e - 1) / 3 by omega) (by omega)), t0, t1, t2, c_areTwo_t hn (show e / 3 + 1 ≤ 6 by omega) hx hy hxy, e1, add1N]
    exact e2
theorem c_readFrom {s : Sq} (hw : Wf σ) (h : PgAt σ L p) (hs : isSq p L = some e) (h0 : SqAt σ 0 s) : ∃ σ', call (d + 8) 48 [vR 5 0, vR 2 0] σ = some (none, σ') ∧ SqAt σ' 0 (rdS p L e s) ∧ Ag (SB 0) σ σ' := by
  obtain ⟨a1, a2, a3, a4, a5, a6, a7, a8, a9, a10⟩ := isSq_facts h.lt hs
  have h38 := h.2.1
  obtain ⟨⟨hn, hK, hW, hA, hF⟩, hV, hT, hC, h8, h9, h10, h11⟩ := h0
  have hf : ∀ (σ : St) (t : Nat), Wf σ → 14 ≤ t → t ≤ 17 → call (d + 7) 224 [vR t 0, vI 0] σ = some (none, sw σ t 0 (fun _ => 0)) := by
    intro σ t hw h1 h2
    have : t = 14 ∨ t = 15 ∨ t = 16 ∨ t = 17 := by omega
    rcases this with rfl | rfl | rfl | rfl <;> exact c_fill0 hw (by decide) (by decide) (by decide) (by decide)
  have w1 : Wf (se σ 5 0 7 (nI (e / 3 + 1))) := hw.se (Or.inl (by decide))
  have w2 : Wf (sw (se σ 5 0 7 (nI (e / 3 + 1))) 14 0 (fun _ => 0)) := w1.sw (fun _ _ => rfl)
  have w3 : Wf (sw (sw (se σ 5 0 7 (nI (e / 3 + 1))) 14 0 (fun _ => 0)) 15 0 (fun _ => 0)) := w2.sw (fun _ _ => rfl)
  have w4 : Wf (sw (sw (sw (se σ 5 0 7 (nI (e / 3 + 1))) 14 0 (fun _ => 0)) 15 0 (fun _ => 0)) 16 0 (fun _ => 0)) := w3.sw (fun _ _ => rfl)
  obtain ⟨σ1, hσ1⟩ : ∃ x, x = se (se (se (se (sw (sw (sw (sw (se σ 5 0 7 (nI (e / 3 + 1))) 14 0 (fun _ => 0)) 15 0 (fun _ => 0)) 16 0 (fun _ => 0)) 17 0 (fun _ => 0)) 5 0 8 0) 5 0 9 0) 5 0 10 0) 5 0 11 0 := ⟨_, rfl⟩
  have st : call (d + 8) 48 [vR 5 0, vR 2 0] σ = exec (d + 8) 48 62 [vR 5 0, vR 2 0, vI 0, vN, vN] [] σ1 := by
    simp only [s48_e, s48_0, s48_5, s48_16, s48_24, s48_32, s48_40, c_countHouses h hs, hf _ _ w1 (by omega : 14 ≤ 14) (by omega), hf _ _ w2 (by omega : 14 ≤ 15) (by omega), hf _ _ w3 (by omega : 14 ≤ 16) (by omega), hf _ _ w4 (by omega : 14 ≤ 17) (by omega), Option.bind_some, Option.toList_some, Option.toList_none, List.cons_append, List.nil_append, true_or, or_true, if_true, if_false, i10, i01, Bool.false_eq_true]
    rw [hσ1]
  have g1 : Ag (SB 0) σ σ1 := by
    rw [hσ1]
    refine ((((((((Ag.sw ⟨rfl, ?_⟩).tr (Ag.sw ⟨rfl, ?_⟩)).tr (Ag.sw ⟨rfl, ?_⟩)).tr (Ag.sw ⟨rfl, ?_⟩)).tr (Ag.sw ⟨rfl, ?_⟩)).tr (Ag.sw ⟨rfl, ?_⟩)).tr (Ag.sw ⟨rfl, ?_⟩)).tr (Ag.sw ⟨rfl, ?_⟩)).tr (Ag.sw ⟨rfl, ?_⟩) <;> omega
  have b2 : ∀ q', ¬ SB q' 2 0 := fun q' => by unfold SB; omega
  have b10 : ∀ q', ¬ SB q' 10 0 := fun q' => by unfold SB; omega
  have P1 : PgAt σ1 L p := h.ag g1 (b2 0) (b10 0)
  have x5 : ar σ1 5 0 = upd (upd (upd (upd (upd (ar σ 5 0) 7 (nI (e / 3 + 1))) 8 0) 9 0) 10 0) 11 0 := by rw [hσ1]; simp only [ar_sw_t, ar_sw_s, se_def, sw_sw, ne_eq, not_false_eq_true, Nat.reduceEqDiff]
  have x7 : ar σ1 5 0 7 = nI (e / 3 + 1) := by rw [x5]; simp only [upd_n, upd_s, ne_eq, Nat.reduceEqDiff, not_false_eq_true]
  have y11 : ar σ1 11 0 = qK s := by rw [hσ1]; simp only [ar_sw_t, ar_sw_s, se_def, sw_sw, ne_eq, not_false_eq_true, Nat.reduceEqDiff]; exact hK
  have y12 : ar σ1 12 0 = qV s := by rw [hσ1]; simp only [ar_sw_t, ar_sw_s, se_def, sw_sw, ne_eq, not_false_eq_true, Nat.reduceEqDiff]; exact hV
  have key := down0 (Pr := fun a => exec (d + 8) 48 62 [vR 5 0, vR 2 0, vI (nI a), vN, vN] [] (sw (sw σ1 11 0 (rdK p a (qK s))) 12 0 (rdV p a (qV s))) = exec (d + 8) 48 100 [vR 5 0, vR 2 0, vI (nI 0), vN, vN] [] (sw (sw σ1 11 0 (rdK p (e / 3 + 1) (qK s))) 12 0 (rdV p (e / 3 + 1) (qV s)))) (e / 3 + 1) (fun a ha ih => ?_) ?_
  · have key : exec (d + 8) 48 62 [vR 5 0, vR 2 0, vI (nI 0), vN, vN] [] (sw (sw σ1 11 0 (rdK p 0 (qK s))) 12 0 (rdV p 0 (qV s))) = _ := key
    rw [rdK_0, rdV_0, sw_id (σ := σ1) (t := 11) y11.symm, sw_id (σ := σ1) (t := 12) y12.symm] at key
    obtain ⟨σ2, hσ2⟩ : ∃ x, x = sw (sw σ1 11 0 (rdK p (e / 3 + 1) (qK s))) 12 0 (rdV p (e / 3 + 1) (qV s)) := ⟨_, rfl⟩
    have g2 : Ag (SB 0) σ1 σ2 := by
      rw [hσ2]
      refine (Ag.sw ⟨rfl, ?_⟩).tr (Ag.sw ⟨rfl, ?_⟩) <;> omega
    have P2 : PgAt σ2 L p := P1.ag g2 (b2 0) (b10 0)
    have x5' : ar σ2 5 0 = ar σ1 5 0 := by rw [hσ2]; simp only [ar_sw_t, ar_sw_s, se_def, sw_sw, ne_eq, not_false_eq_true, Nat.reduceEqDiff]
    obtain ⟨σ3, v3, v4, e3, hA3, g3⟩ := l_readTold (d := d) hs ((L - e - 1) / 3) 0 (by omega) σ2 vN vN P2 (by rw [x5', x7]) (by rw [hσ2, hσ1]; simp only [ar_sw_t, ar_sw_s, se_def, sw_sw, ne_eq, not_false_eq_true, Nat.reduceEqDiff]; rfl)
    have n5 : ¬ SA 0 5 0 := by unfold SA; omega
    have z5 : ar σ3 5 0 = ar σ1 5 0 := by rw [g3.1 _ _ n5, x5']
    have z11 : ar σ3 11 0 = rdK p (e / 3 + 1) (qK s) := by rw [g3.1 _ _ (by unfold SA; omega), hσ2]; simp only [ar_sw_t, ar_sw_s, se_def, sw_sw, ne_eq, not_false_eq_true, Nat.reduceEqDiff]
    have z12 : ar σ3 12 0 = rdV p (e / 3 + 1) (qV s) := by rw [g3.1 _ _ (by unfold SA; omega), hσ2]; simp only [ar_sw_t, ar_sw_s, se_def, sw_sw, ne_eq, not_false_eq_true, Nat.reduceEqDiff]
    have z14 : ar σ3 14 0 = fun _ => 0 := by rw [g3.1 _ _ (by unfold SA; omega), hσ2, hσ1]; simp only [ar_sw_t, ar_sw_s, se_def, sw_sw, ne_eq, not_false_eq_true, Nat.reduceEqDiff]
    have z15 : ar σ3 15 0 = fun _ => 0 := by rw [g3.1 _ _ (by unfold SA; omega), hσ2, hσ1]; simp only [ar_sw_t, ar_sw_s, se_def, sw_sw, ne_eq, not_false_eq_true, Nat.reduceEqDiff]
    have z17 : ar σ3 17 0 = fun _ => 0 := by rw [g3.1 _ _ (by unfold SA; omega), hσ2, hσ1]; simp only [ar_sw_t, ar_sw_s, se_def, sw_sw, ne_eq, not_false_eq_true, Nat.reduceEqDiff]
    obtain ⟨v, ht⟩ := c_turnAll0 (d := d + 6) (σ := σ3) (q := 0) (n := e / 3 + 1) (by rw [z5, x7]) (by omega)
    refine ⟨sw σ3 13 0 (fun a => if a < e / 3 + 1 then en (pick (e / 3 + 1) (ar σ3 11 0) (ar σ3 17 0) (ar σ3 16 0) a) else ar σ3 13 0 a), ?_, ⟨⟨?_, ?_, ?_, ?_, fun a ha => ?_⟩, ?_, ?_, ?_, ?_, ?_, ?_, ?_⟩, ?_⟩
    · rw [st]
      refine key.trans ?_
      rw [← hσ2]
      refine e3.trans ?_
      simp only [s48_152, s48_156, ht, Option.bind_some, Option.toList_some, Option.toList_none, List.cons_append, List.nil_append, true_or, or_true, if_true, if_false, i10, i01, Bool.false_eq_true]
    · simp only [ar_sw_t, ar_sw_s, se_def, sw_sw, ne_eq, not_false_eq_true, Nat.reduceEqDiff]; rw [z5, x7]; rfl
    · simp only [ar_sw_t, ar_sw_s, se_def, sw_sw, ne_eq, not_false_eq_true, Nat.reduceEqDiff]; exact z11
    · simp only [ar_sw_t, ar_sw_s, se_def, sw_sw, ne_eq, not_false_eq_true, Nat.reduceEqDiff]; exact z17
    · simp only [ar_sw_t, ar_sw_s, se_def, sw_sw, ne_eq, not_false_eq_true, Nat.reduceEqDiff]; exact hA3
    · have ha' : a < e / 3 + 1 := ha
      simp only [ar_sw_t, ar_sw_s, se_def, sw_sw, ne_eq, not_false_eq_true, Nat.reduceEqDiff]; rw [if_pos ha', z11, z17, hA3]; rfl
    · simp only [ar_sw_t, ar_sw_s, se_def, sw_sw, ne_eq, not_false_eq_true, Nat.reduceEqDiff]; exact z12
    · simp only [ar_sw_t, ar_sw_s, se_def, sw_sw, ne_eq, not_false_eq_true, Nat.reduceEqDiff]; exact z14
    · simp only [ar_sw_t, ar_sw_s, se_def, sw_sw, ne_eq, not_false_eq_true, Nat.reduceEqDiff]; exact z15
    · simp only [ar_sw_t, ar_sw_s, se_def, sw_sw, ne_eq, not_false_eq_true, Nat.reduceEqDiff]; rw [z5, x5]; simp only [upd_n, upd_s, ne_eq, Nat.reduceEqDiff, not_false_eq_true]; rfl
    · simp only [ar_sw_t, ar_sw_s, se_def, sw_sw, ne_eq, not_false_eq_true, Nat.reduceEqDiff]; rw [z5, x5]; simp only [upd_n, upd_s, ne_eq, Nat.reduceEqDiff, not_false_eq_true]; rfl
    · simp only [ar_sw_t, ar_sw_s, se_def, sw_sw, ne_eq, not_false_eq_true, Nat.reduceEqDiff]; rw [z5, x5]; simp only [upd_n, upd_s, ne_eq, Nat.reduceEqDiff, not_false_eq_true]; rfl
    · simp only [ar_sw_t, ar_sw_s, se_def, sw_sw, ne_eq, not_false_eq_true, Nat.reduceEqDiff]; rw [z5, x5]; simp only [upd_n, upd_s, ne_eq, Nat.reduceEqDiff, not_false_eq_true]; rfl
    · exact ((g1.tr g2).tr g3.SA_SB).tr (Ag.sw ⟨rfl, by omega⟩)
  · obtain ⟨⟨k1, hk1⟩, ⟨k2, hk2⟩⟩ := a7 a ha
    have hPa : PgAt (sw (sw σ1 11 0 (rdK p a (qK s))) 12 0 (rdV p a (qV s))) L p := P1.ag (S := SB 0) ((Ag.sw ⟨rfl, by omega⟩).tr (Ag.sw ⟨rfl, by omega⟩)) (b2 0) (b10 0)
    have hPb : PgAt (sw (sw σ1 12 0 (rdV p a (qV s))) 11 0 (rdK p (a + 1) (qK s))) L p := P1.ag (S := SB 0) ((Ag.sw ⟨rfl, by omega⟩).tr (Ag.sw ⟨rfl, by omega⟩)) (b2 0) (b10 0)
    have cm : ∀ f g, sw (sw σ1 11 0 f) 12 0 g = sw (sw σ1 12 0 g) 11 0 f := by
      intro f g
      refine Prod.ext ?_ rfl
      funext t q'
      simp only [sw]
      by_cases x1 : t = 11
      · subst x1; by_cases x3 : q' = 0 <;> simp [x3]
      · by_cases x2 : t = 12
        · subst x2; by_cases x3 : q' = 0 <;> simp [x3]
        · simp [x1, x2]
    rw [← rdV_step (n := 0) hk2, cm, ← rdK_step (n := 0) hk1] at ih
    have c1 := c_pageKind (d := d + 1) hPa (by omega) hk1
    rw [cm] at c1
    have c2 := c_pageView (d := d + 6) (σ := sw (sw σ1 12 0 (rdV p a (qV s))) 11 0 (upd (rdK p a (qK s)) a (nI k1))) (by rw [rdK_step (n := 0) hk1]; exact hPb) (by omega) hk2
    rw [cm, s48_62]
    simp only [s48_70, s48_80, s48_81, s48_91, s48_92, ar_sw_t, ar_sw_s, se_def, sw_sw, ne_eq, not_false_eq_true, Nat.reduceEqDiff, x7, if_pos (ltn ha (show e / 3 + 1 ≤ 100000 by omega)), c1, c2, oob_nI (show a < 6 by omega) (by decide), cl6 (show a < 6 by omega), Option.bind_some, Option.toList_some, Option.toList_none, List.cons_append, List.nil_append, true_or, or_true, if_true, if_false, i10, i01, Bool.false_eq_true, add1N]
    rw [← cm] at ih ⊢
    simp only [sw_sw]
    first | exact ih | (rw [← cm]; exact ih) | (rw [cm]; exact ih)
  · rw [s48_62]
    have : ar (sw (sw σ1 11 0 (rdK p (e / 3 + 1) (qK s))) 12 0 (rdV p (e / 3 + 1) (qV s))) 5 0 7 = nI (e / 3 + 1) := by simp only [ar_sw_t, ar_sw_s, se_def, sw_sw, ne_eq, not_false_eq_true, Nat.reduceEqDiff]; exact x7
    rw [this, if_neg nlt, s48_98]
    rfl
end RD

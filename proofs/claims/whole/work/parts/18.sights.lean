/-! Sights. -/
abbrev Sg : Type := Nat × (Nat → Nat) × (Nat → Option Nat) × (Nat → Nat)
def gl (g : Sg) : Nat := g.1
def gh (g : Sg) : Nat → Nat := g.2.1
def gf (g : Sg) : Nat → Option Nat := g.2.2.1
def gm (g : Sg) : Nat → Nat := g.2.2.2
def SgAt (σ : St) (q : Nat) (g : Sg) : Prop := ar σ 4 q 3 = nI (gl g) ∧ gl g ≤ 8 ∧ ∀ i, i < gl g → ar σ 18 q i = nI (gh g i) ∧ ar σ 19 q i = en (gf g i) ∧ ar σ 20 q i = nI (gm g i)
/-- what of the store is a list of sights -/
def GB (q : Nat) : Nat → Nat → Prop := fun t q' => q' = q ∧ (t = 4 ∨ (18 ≤ t ∧ t ≤ 20))
def allb (p : Nat → Bool) : Nat → Bool
  | 0 => true
  | b + 1 => allb p b && p b
theorem allb_t {p : Nat → Bool} : ∀ {n : Nat}, allb p n = true ↔ ∀ i, i < n → p i = true
  | 0 => ⟨fun _ i hi => by omega, fun _ => rfl⟩
  | b + 1 => by
    rw [allb, Bool.and_eq_true, allb_t]
    constructor
    · rintro ⟨h1, h2⟩ i hi
      by_cases e : i = b
      · rw [e]; exact h2
      · exact h1 i (by omega)
    · intro h
      exact ⟨fun i hi => h i (by omega), h b (by omega)⟩
section SG
variable {d : Nat} {σ : St} {q : Nat} {g : Sg}
theorem SgAt.ag {S : Nat → Nat → Prop} {σ' : St} (h : SgAt σ q g) (hg : Ag S σ σ') (h4 : ¬ S 4 q) (h18 : ¬ S 18 q) (h19 : ¬ S 19 q) (h20 : ¬ S 20 q) : SgAt σ' q g := ⟨by rw [hg.1 _ _ h4]; exact h.1, h.2.1, fun i hi => by rw [hg.1 _ _ h18, hg.1 _ _ h19, hg.1 _ _ h20]; exact h.2.2 i hi⟩
theorem c_seenFull (h : SgAt σ q g) : call d 42 [vR 4 q] σ = some (some (vI (if gl g = 8 then 1 else 0)), σ) := by
  have h8 := h.2.1
  have e1 : (nI (gl g) < 8) = (gl g < 8) := by rw [show (8 : Int32) = nI 8 from rfl, ltN (by omega) (by omega)]
  by_cases c1 : gl g = 8
  · rw [if_pos c1]
    simp only [s42_e, s42_0, s42_9, s42_13, s42_14, h.1, e1.trans (eq_false (show ¬ gl g < 8 by omega)), Option.bind_some, Option.toList_some, Option.toList_none, List.cons_append, List.nil_append, true_or, or_true, if_true, if_false, i10, i01, Bool.false_eq_true]
  · rw [if_neg c1]
    simp only [s42_e, s42_0, s42_9, s42_13, s42_14, h.1, e1.trans (eq_true (show gl g < 8 by omega)), Option.bind_some, Option.toList_some, Option.toList_none, List.cons_append, List.nil_append, true_or, or_true, if_true, if_false, i10, i01, Bool.false_eq_true]
theorem c_seenSize (h : SgAt σ q g) : call d 43 [vR 4 q] σ = some (some (vI (nI (gl g))), σ) := by
  simp only [s43_e, s43_0, h.1]
def addG (g : Sg) (a : Nat) (o : Option Nat) (m : Nat) : Sg := (gl g + 1, (fun i => if i = gl g then a else gh g i), (fun i => if i = gl g then o else gf g i), (fun i => if i = gl g then m else gm g i))
theorem c_seenAdd {a m : Nat} {o : Option Nat} (h : SgAt σ q g) (hl : gl g ≠ 8) : ∃ σ', call (d + 1) 44 [vR 4 q, vI (nI a), vI (en o), vI (nI m)] σ = some (some (vI (nI (gl g + 1))), σ') ∧ SgAt σ' q (addG g a o m) ∧ Ag (GB q) σ σ' := by
  have h8 := h.2.1
  have hf := c_seenFull (d := d) h
  rw [if_neg hl] at hf
  refine ⟨se (se (se (se σ 18 q (gl g) (nI a)) 19 q (gl g) (en o)) 20 q (gl g) (nI m)) 4 q 3 (nI (gl g + 1)), ?_, ⟨?_, ?_, fun i hi => ?_⟩, ?_⟩
  · simp only [s44_e, s44_0, s44_4, s44_7, s44_17, s44_27, s44_37, s44_47, hf, h.1, oob_nI (show gl g < 8 by omega) (by decide), clN (show gl g ≤ 100000 by omega), Option.bind_some, Option.toList_some, Option.toList_none, List.cons_append, List.nil_append, true_or, or_true, if_true, if_false, i10, i01, Bool.false_eq_true, ar_sw_t, ar_sw_s, se_def, sw_sw, ne_eq, not_false_eq_true, Nat.reduceEqDiff, add1N, upd_s]
  · simp only [ar_sw_t, ar_sw_s, se_def, sw_sw, ne_eq, not_false_eq_true, Nat.reduceEqDiff, upd_s]; rfl
  · show gl g + 1 ≤ 8; omega
  · have hi' : i < gl g + 1 := hi
    simp only [ar_sw_t, ar_sw_s, se_def, sw_sw, ne_eq, not_false_eq_true, Nat.reduceEqDiff, upd_if]
    show (_ = nI (if i = gl g then a else gh g i)) ∧ (_ = en (if i = gl g then o else gf g i)) ∧ (_ = nI (if i = gl g then m else gm g i))
    by_cases e : i = gl g
    · rw [if_pos e, if_pos e, if_pos e, if_pos e, if_pos e, if_pos e]; exact ⟨rfl, rfl, rfl⟩
    · rw [if_neg e, if_neg e, if_neg e, if_neg e, if_neg e, if_neg e]; exact h.2.2 i (by omega)
  · refine (((Ag.sw ⟨rfl, ?_⟩).tr (Ag.sw ⟨rfl, ?_⟩)).tr (Ag.sw ⟨rfl, ?_⟩)).tr (Ag.sw ⟨rfl, ?_⟩) <;> omega
theorem c_seenClear (h : SgAt σ q g) : ∃ σ', call d 45 [vR 4 q] σ = some (some (vI (nI (gl g))), σ') ∧ SgAt σ' q (0, gh g, gf g, gm g) ∧ Ag (GB q) σ σ' := by
  refine ⟨se σ 4 q 3 0, by simp only [s45_e, s45_0, h.1], ⟨?_, Nat.zero_le _, fun i hi => by exact absurd hi (Nat.not_lt_zero i)⟩, Ag.sw ⟨rfl, Or.inl rfl⟩⟩
  simp only [ar_sw_t, ar_sw_s, se_def, sw_sw, ne_eq, not_false_eq_true, Nat.reduceEqDiff, upd_s]
  rfl
theorem c_seenCopy {q' : Nat} (hq : q ≠ q') (h : SgAt σ q' g) : ∃ σ', call d 46 [vR 4 q, vR 4 q'] σ = some (none, σ') ∧ SgAt σ' q g ∧ Ag (GB q) σ σ' := by
  have hq' := Ne.symm hq
  refine ⟨_, by rw [s46_e, s46_0, s46_15, s46_30, s46_45], ⟨?_, h.2.1, fun i hi => ?_⟩, ?_⟩
  · simp only [ar_sw_t, ar_sw_s, se_def, sw_sw, ne_eq, not_false_eq_true, Nat.reduceEqDiff, upd_s]; exact h.1
  · simp only [ar_sw_t, ar_sw_s, se_def, sw_sw, ne_eq, not_false_eq_true, Nat.reduceEqDiff]; exact h.2.2 i hi
  · refine (((Ag.sw ⟨rfl, ?_⟩).tr (Ag.sw ⟨rfl, ?_⟩)).tr (Ag.sw ⟨rfl, ?_⟩)).tr (Ag.sw ⟨rfl, ?_⟩) <;> omega
theorem c_isSo {n : Nat} {R : Nat → Nat → Option Nat} (h6 : n ≤ 6) (h : SgAt σ q g) (hg : ∀ i, i < gl g → gh g i < n ∧ (∀ b, gf g i = some b → b < n) ∧ gm g i < 6) (hR : ∀ k a, k < 6 → a < n → ar σ 24 k a = en (R k a)) (hv : ∀ k a b, R k a = some b → b < n) :
    call d 47 [vR 4 q, vR 23 0] σ = some (some (vI (if allb (fun i => decide (R (gm g i) (gh g i) = gf g i)) (gl g) = true then 1 else 0)), σ) := by
  have h8 := h.2.1
  rw [s47_e, s47_0]
  have key : ∀ m i, i + m = gl g → allb (fun i => decide (R (gm g i) (gh g i) = gf g i)) i = true → exec d 47 2 [vR 4 q, vR 23 0, vI (nI i)] [] σ = some (some (vI (if allb (fun i => decide (R (gm g i) (gh g i) = gf g i)) (gl g) = true then 1 else 0)), σ) := by
    intro m
    induction m with
    | zero =>
      intro i hi ha
      have e : i = gl g := by omega
      subst e
      rw [s47_2, h.1, if_neg nlt, s47_42, if_pos ha]
    | succ m ih =>
      intro i hi ha
      obtain ⟨h18, h19, h20⟩ := h.2.2 i (by omega)
      obtain ⟨g1, g2, g3⟩ := hg i (by omega)
      have i8 := oob_nI (show i < 8 by omega) (by decide)
      have j8 := clN (show i ≤ 100000 by omega)
      have e1 := en_inj (o := R (gm g i) (gh g i)) (o' := gf g i) (fun b hb => by have := hv _ _ b hb; omega) (fun b hb => by have := g2 b hb; omega)
      rw [s47_2, h.1, if_pos (ltn (show i < gl g by omega) (by omega))]
      by_cases c1 : R (gm g i) (gh g i) = gf g i
      · simp only [s47_10, s47_17, s47_18, s47_24, s47_25, s47_31, s47_36, i8, j8, h18, h19, h20, oob_nI (show gm g i < 6 from g3) (by decide), clN (show gm g i ≤ 100000 by omega), oob_nI (show gh g i < 6 by omega) (by decide), clN (show gh g i ≤ 100000 by omega), hR _ _ g3 g1, e1.trans (eq_true c1), Option.bind_some, Option.toList_some, Option.toList_none, List.cons_append, List.nil_append, true_or, or_true, if_true, if_false, i10, i01, Bool.false_eq_true, add1N]
        exact ih (i + 1) (by omega) (by rw [allb, ha, decide_eq_true c1]; rfl)
      · have hf : ¬ allb (fun i => decide (R (gm g i) (gh g i) = gf g i)) (gl g) = true := fun z => c1 (by have := (allb_t.mp z) i (by omega); simpa using this)
        rw [if_neg hf]
        simp only [s47_10, s47_17, s47_18, s47_24, s47_25, s47_31, s47_34, i8, j8, h18, h19, h20, oob_nI (show gm g i < 6 from g3) (by decide), clN (show gm g i ≤ 100000 by omega), oob_nI (show gh g i < 6 by omega) (by decide), clN (show gh g i ≤ 100000 by omega), hR _ _ g3 g1, e1.trans (eq_false c1), Option.bind_some, Option.toList_some, Option.toList_none, List.cons_append, List.nil_append, true_or, or_true, if_true, if_false, i10, i01, Bool.false_eq_true]
  exact key (gl g) 0 (by omega) rfl
end SG

/-! The law's loop, as it is read. -/
theorem lg_same (x : Int64) : lg_cmp x x = 0 := by
  unfold lg_cmp
  rw [if_neg Int64.lt_irrefl]
  first | rfl | (rw [if_pos rfl]) | simp
/-- what stands at the loop's head -/
def LI (L : Nat) (f : Nat → Int32) (j : Nat) (σ : St) : Prop := ∃ X, CAt σ X ∧ MAt σ X ∧ WfX X ∧ xr X ≤ j ∧ Wf σ ∧ scL σ = L ∧ scF σ = f
section LW
variable {d : Nat} {σ : St} {L j : Nat} {f : Nat → Int32}
theorem law_160 (h : LI L f j σ) (hj : 4 * j + 4 ≤ L) (hL : L ≤ 256) : ∃ σ', exec (d + 13) 225 160 [vR 64 0, vR 6 0, vR 7 0, vI (nI (4 * j))] [] σ = exec (d + 13) 225 961 [vR 64 0, vR 6 0, vR 7 0, vI (nI (4 * j))] [] σ' ∧ LI L f (j + 1) σ' := by
  obtain ⟨X, hc, hm, hx, hr, hw, hl, hf⟩ := h
  have a2 : nI (4 * j) + 2 = nI (4 * j + 2) := by rw [show (2 : Int32) = nI 2 from rfl, addN]
  have a3 : nI (4 * j) + 3 = nI (4 * j + 3) := by rw [show (3 : Int32) = nI 3 from rfl, addN]
  have o1 := oob_nI (show 4 * j + 1 < L by omega) (show L ≤ 1000 by omega)
  have o2 := oob_nI (show 4 * j + 2 < L by omega) (show L ≤ 1000 by omega)
  have o3 := oob_nI (show 4 * j + 3 < L by omega) (show L ≤ 1000 by omega)
  have k1 := clN (show 4 * j + 1 ≤ 100000 by omega)
  have k2 := clN (show 4 * j + 2 ≤ 100000 by omega)
  have k3 := clN (show 4 * j + 3 ≤ 100000 by omega)
  obtain ⟨v, σ1, σ2, X', e1, e2, c', m', w', r', s1, s2, wf'⟩ := op_letter (d := d) (x := f (4 * j + 1)) hw hc hm hx
  have l1 : scL σ1 = L := (congrArg Prod.fst s1).trans hl
  have f1 : scF σ1 = f := (congrArg Prod.snd s1).trans hf
  refine ⟨σ2, ?_, X', c', m', w', by omega, wf', (congrArg Prod.fst s2).trans hl, (congrArg Prod.snd s2).trans hf⟩
  simp only [s225_160, s225_166, s225_169, s225_175, s225_178, hl, hf, l1, f1, add1N, a2, a3, o1, o2, o3, k1, k2, k3, e1, e2, eq_self, Option.bind_some, Option.toList_some, Option.toList_none, List.cons_append, List.nil_append, true_or, or_true, if_true, if_false, i10, i01, Bool.false_eq_true]
theorem law_183 (h : LI L f j σ) (hj : 4 * j + 4 ≤ L) (hL : L ≤ 256) : ∃ σ', exec (d + 13) 225 183 [vR 64 0, vR 6 0, vR 7 0, vI (nI (4 * j))] [] σ = exec (d + 13) 225 961 [vR 64 0, vR 6 0, vR 7 0, vI (nI (4 * j))] [] σ' ∧ LI L f (j + 1) σ' := by
  obtain ⟨X, hc, hm, hx, hr, hw, hl, hf⟩ := h
  have a2 : nI (4 * j) + 2 = nI (4 * j + 2) := by rw [show (2 : Int32) = nI 2 from rfl, addN]
  have a3 : nI (4 * j) + 3 = nI (4 * j + 3) := by rw [show (3 : Int32) = nI 3 from rfl, addN]
  have o1 := oob_nI (show 4 * j + 1 < L by omega) (show L ≤ 1000 by omega)
  have o2 := oob_nI (show 4 * j + 2 < L by omega) (show L ≤ 1000 by omega)
  have o3 := oob_nI (show 4 * j + 3 < L by omega) (show L ≤ 1000 by omega)
  have k1 := clN (show 4 * j + 1 ≤ 100000 by omega)
  have k2 := clN (show 4 * j + 2 ≤ 100000 by omega)
  have k3 := clN (show 4 * j + 3 ≤ 100000 by omega)
  obtain ⟨v, σ1, σ2, X', e1, e2, c', m', w', r', s1, s2, wf'⟩ := op_blank (d := d)  hw hc hm hx
  have l1 : scL σ1 = L := (congrArg Prod.fst s1).trans hl
  have f1 : scF σ1 = f := (congrArg Prod.snd s1).trans hf
  refine ⟨σ2, ?_, X', c', m', w', by omega, wf', (congrArg Prod.fst s2).trans hl, (congrArg Prod.snd s2).trans hf⟩
  simp only [s225_183, s225_187, s225_191, hl, hf, l1, f1, add1N, a2, a3, o1, o2, o3, k1, k2, k3, e1, e2, eq_self, Option.bind_some, Option.toList_some, Option.toList_none, List.cons_append, List.nil_append, true_or, or_true, if_true, if_false, i10, i01, Bool.false_eq_true]
theorem law_196 (h : LI L f j σ) (hj : 4 * j + 4 ≤ L) (hL : L ≤ 256) : ∃ σ', exec (d + 13) 225 196 [vR 64 0, vR 6 0, vR 7 0, vI (nI (4 * j))] [] σ = exec (d + 13) 225 961 [vR 64 0, vR 6 0, vR 7 0, vI (nI (4 * j))] [] σ' ∧ LI L f (j + 1) σ' := by
  obtain ⟨X, hc, hm, hx, hr, hw, hl, hf⟩ := h
  have a2 : nI (4 * j) + 2 = nI (4 * j + 2) := by rw [show (2 : Int32) = nI 2 from rfl, addN]
  have a3 : nI (4 * j) + 3 = nI (4 * j + 3) := by rw [show (3 : Int32) = nI 3 from rfl, addN]
  have o1 := oob_nI (show 4 * j + 1 < L by omega) (show L ≤ 1000 by omega)
  have o2 := oob_nI (show 4 * j + 2 < L by omega) (show L ≤ 1000 by omega)
  have o3 := oob_nI (show 4 * j + 3 < L by omega) (show L ≤ 1000 by omega)
  have k1 := clN (show 4 * j + 1 ≤ 100000 by omega)
  have k2 := clN (show 4 * j + 2 ≤ 100000 by omega)
  have k3 := clN (show 4 * j + 3 ≤ 100000 by omega)
  obtain ⟨v, σ1, σ2, X', e1, e2, c', m', w', r', s1, s2, wf'⟩ := op_fault (d := d)  hw hc hm hx
  have l1 : scL σ1 = L := (congrArg Prod.fst s1).trans hl
  have f1 : scF σ1 = f := (congrArg Prod.snd s1).trans hf
  refine ⟨σ2, ?_, X', c', m', w', by omega, wf', (congrArg Prod.fst s2).trans hl, (congrArg Prod.snd s2).trans hf⟩
  simp only [s225_196, s225_200, s225_204, hl, hf, l1, f1, add1N, a2, a3, o1, o2, o3, k1, k2, k3, e1, e2, eq_self, Option.bind_some, Option.toList_some, Option.toList_none, List.cons_append, List.nil_append, true_or, or_true, if_true, if_false, i10, i01, Bool.false_eq_true]
theorem law_209 (h : LI L f j σ) (hj : 4 * j + 4 ≤ L) (hL : L ≤ 256) : ∃ σ', exec (d + 13) 225 209 [vR 64 0, vR 6 0, vR 7 0, vI (nI (4 * j))] [] σ = exec (d + 13) 225 961 [vR 64 0, vR 6 0, vR 7 0, vI (nI (4 * j))] [] σ' ∧ LI L f (j + 1) σ' := by
  obtain ⟨X, hc, hm, hx, hr, hw, hl, hf⟩ := h
  have a2 : nI (4 * j) + 2 = nI (4 * j + 2) := by rw [show (2 : Int32) = nI 2 from rfl, addN]
  have a3 : nI (4 * j) + 3 = nI (4 * j + 3) := by rw [show (3 : Int32) = nI 3 from rfl, addN]
  have o1 := oob_nI (show 4 * j + 1 < L by omega) (show L ≤ 1000 by omega)
  have o2 := oob_nI (show 4 * j + 2 < L by omega) (show L ≤ 1000 by omega)
  have o3 := oob_nI (show 4 * j + 3 < L by omega) (show L ≤ 1000 by omega)
  have k1 := clN (show 4 * j + 1 ≤ 100000 by omega)
  have k2 := clN (show 4 * j + 2 ≤ 100000 by omega)
  have k3 := clN (show 4 * j + 3 ≤ 100000 by omega)
  obtain ⟨v, σ1, σ2, X', e1, e2, c', m', w', r', s1, s2, wf'⟩ := op_square (d := d)  hw hc hm hx (by omega)
  have l1 : scL σ1 = L := (congrArg Prod.fst s1).trans hl
  have f1 : scF σ1 = f := (congrArg Prod.snd s1).trans hf
  refine ⟨σ2, ?_, X', c', m', w', by omega, wf', (congrArg Prod.fst s2).trans hl, (congrArg Prod.snd s2).trans hf⟩
  simp only [s225_209, s225_213, s225_217, hl, hf, l1, f1, add1N, a2, a3, o1, o2, o3, k1, k2, k3, e1, e2, eq_self, Option.bind_some, Option.toList_some, Option.toList_none, List.cons_append, List.nil_append, true_or, or_true, if_true, if_false, i10, i01, Bool.false_eq_true]
theorem law_222 (h : LI L f j σ) (hj : 4 * j + 4 ≤ L) (hL : L ≤ 256) : ∃ σ', exec (d + 13) 225 222 [vR 64 0, vR 6 0, vR 7 0, vI (nI (4 * j))] [] σ = exec (d + 13) 225 961 [vR 64 0, vR 6 0, vR 7 0, vI (nI (4 * j))] [] σ' ∧ LI L f (j + 1) σ' := by
  obtain ⟨X, hc, hm, hx, hr, hw, hl, hf⟩ := h
  have a2 : nI (4 * j) + 2 = nI (4 * j + 2) := by rw [show (2 : Int32) = nI 2 from rfl, addN]
  have a3 : nI (4 * j) + 3 = nI (4 * j + 3) := by rw [show (3 : Int32) = nI 3 from rfl, addN]
  have o1 := oob_nI (show 4 * j + 1 < L by omega) (show L ≤ 1000 by omega)
  have o2 := oob_nI (show 4 * j + 2 < L by omega) (show L ≤ 1000 by omega)
  have o3 := oob_nI (show 4 * j + 3 < L by omega) (show L ≤ 1000 by omega)
  have k1 := clN (show 4 * j + 1 ≤ 100000 by omega)
  have k2 := clN (show 4 * j + 2 ≤ 100000 by omega)
  have k3 := clN (show 4 * j + 3 ≤ 100000 by omega)
  obtain ⟨v, σ1, σ2, X', e1, e2, c', m', w', r', s1, s2, wf'⟩ := op_house (d := d) (x := f (4 * j + 1)) (y := f (4 * j + 2)) hw hc hm hx
  have l1 : scL σ1 = L := (congrArg Prod.fst s1).trans hl
  have f1 : scF σ1 = f := (congrArg Prod.snd s1).trans hf
  refine ⟨σ2, ?_, X', c', m', w', by omega, wf', (congrArg Prod.fst s2).trans hl, (congrArg Prod.snd s2).trans hf⟩
  simp only [s225_222, s225_228, s225_233, s225_236, s225_242, s225_247, s225_250, hl, hf, l1, f1, add1N, a2, a3, o1, o2, o3, k1, k2, k3, e1, e2, eq_self, Option.bind_some, Option.toList_some, Option.toList_none, List.cons_append, List.nil_append, true_or, or_true, if_true, if_false, i10, i01, Bool.false_eq_true]
theorem law_255 (h : LI L f j σ) (hj : 4 * j + 4 ≤ L) (hL : L ≤ 256) : ∃ σ', exec (d + 13) 225 255 [vR 64 0, vR 6 0, vR 7 0, vI (nI (4 * j))] [] σ = exec (d + 13) 225 961 [vR 64 0, vR 6 0, vR 7 0, vI (nI (4 * j))] [] σ' ∧ LI L f (j + 1) σ' := by
  obtain ⟨X, hc, hm, hx, hr, hw, hl, hf⟩ := h
  have a2 : nI (4 * j) + 2 = nI (4 * j + 2) := by rw [show (2 : Int32) = nI 2 from rfl, addN]
  have a3 : nI (4 * j) + 3 = nI (4 * j + 3) := by rw [show (3 : Int32) = nI 3 from rfl, addN]
  have o1 := oob_nI (show 4 * j + 1 < L by omega) (show L ≤ 1000 by omega)
  have o2 := oob_nI (show 4 * j + 2 < L by omega) (show L ≤ 1000 by omega)
  have o3 := oob_nI (show 4 * j + 3 < L by omega) (show L ≤ 1000 by omega)
  have k1 := clN (show 4 * j + 1 ≤ 100000 by omega)
  have k2 := clN (show 4 * j + 2 ≤ 100000 by omega)
  have k3 := clN (show 4 * j + 3 ≤ 100000 by omega)
  obtain ⟨v, σ1, σ2, X', e1, e2, c', m', w', r', s1, s2, wf'⟩ := op_as (d := d) (x := f (4 * j + 1)) (y := f (4 * j + 2)) hw hc hm hx
  have l1 : scL σ1 = L := (congrArg Prod.fst s1).trans hl
  have f1 : scF σ1 = f := (congrArg Prod.snd s1).trans hf
  refine ⟨σ2, ?_, X', c', m', w', by omega, wf', (congrArg Prod.fst s2).trans hl, (congrArg Prod.snd s2).trans hf⟩
  simp only [s225_255, s225_261, s225_266, s225_269, s225_275, s225_280, s225_283, hl, hf, l1, f1, add1N, a2, a3, o1, o2, o3, k1, k2, k3, e1, e2, eq_self, Option.bind_some, Option.toList_some, Option.toList_none, List.cons_append, List.nil_append, true_or, or_true, if_true, if_false, i10, i01, Bool.false_eq_true]
theorem law_288 (h : LI L f j σ) (hj : 4 * j + 4 ≤ L) (hL : L ≤ 256) : ∃ σ', exec (d + 13) 225 288 [vR 64 0, vR 6 0, vR 7 0, vI (nI (4 * j))] [] σ = exec (d + 13) 225 961 [vR 64 0, vR 6 0, vR 7 0, vI (nI (4 * j))] [] σ' ∧ LI L f (j + 1) σ' := by
  obtain ⟨X, hc, hm, hx, hr, hw, hl, hf⟩ := h
  have a2 : nI (4 * j) + 2 = nI (4 * j + 2) := by rw [show (2 : Int32) = nI 2 from rfl, addN]
  have a3 : nI (4 * j) + 3 = nI (4 * j + 3) := by rw [show (3 : Int32) = nI 3 from rfl, addN]
  have o1 := oob_nI (show 4 * j + 1 < L by omega) (show L ≤ 1000 by omega)
  have o2 := oob_nI (show 4 * j + 2 < L by omega) (show L ≤ 1000 by omega)
  have o3 := oob_nI (show 4 * j + 3 < L by omega) (show L ≤ 1000 by omega)
  have k1 := clN (show 4 * j + 1 ≤ 100000 by omega)
  have k2 := clN (show 4 * j + 2 ≤ 100000 by omega)
  have k3 := clN (show 4 * j + 3 ≤ 100000 by omega)
  obtain ⟨v, σ1, σ2, X', e1, e2, c', m', w', r', s1, s2, wf'⟩ := op_anger (d := d) (x := f (4 * j + 1)) (y := f (4 * j + 2)) hw hc hm hx
  have l1 : scL σ1 = L := (congrArg Prod.fst s1).trans hl
  have f1 : scF σ1 = f := (congrArg Prod.snd s1).trans hf
  refine ⟨σ2, ?_, X', c', m', w', by omega, wf', (congrArg Prod.fst s2).trans hl, (congrArg Prod.snd s2).trans hf⟩
  simp only [s225_288, s225_294, s225_299, s225_302, s225_308, s225_313, s225_316, hl, hf, l1, f1, add1N, a2, a3, o1, o2, o3, k1, k2, k3, e1, e2, eq_self, Option.bind_some, Option.toList_some, Option.toList_none, List.cons_append, List.nil_append, true_or, or_true, if_true, if_false, i10, i01, Bool.false_eq_true]
theorem law_321 (h : LI L f j σ) (hj : 4 * j + 4 ≤ L) (hL : L ≤ 256) : ∃ σ', exec (d + 13) 225 321 [vR 64 0, vR 6 0, vR 7 0, vI (nI (4 * j))] [] σ = exec (d + 13) 225 961 [vR 64 0, vR 6 0, vR 7 0, vI (nI (4 * j))] [] σ' ∧ LI L f (j + 1) σ' := by
  obtain ⟨X, hc, hm, hx, hr, hw, hl, hf⟩ := h
  have a2 : nI (4 * j) + 2 = nI (4 * j + 2) := by rw [show (2 : Int32) = nI 2 from rfl, addN]
  have a3 : nI (4 * j) + 3 = nI (4 * j + 3) := by rw [show (3 : Int32) = nI 3 from rfl, addN]
  have o1 := oob_nI (show 4 * j + 1 < L by omega) (show L ≤ 1000 by omega)
  have o2 := oob_nI (show 4 * j + 2 < L by omega) (show L ≤ 1000 by omega)
  have o3 := oob_nI (show 4 * j + 3 < L by omega) (show L ≤ 1000 by omega)
  have k1 := clN (show 4 * j + 1 ≤ 100000 by omega)
  have k2 := clN (show 4 * j + 2 ≤ 100000 by omega)
  have k3 := clN (show 4 * j + 3 ≤ 100000 by omega)
  obtain ⟨v, σ1, σ2, X', e1, e2, c', m', w', r', s1, s2, wf'⟩ := op_line (d := d) (x := f (4 * j + 1)) (y := f (4 * j + 2)) hw hc hm hx
  have l1 : scL σ1 = L := (congrArg Prod.fst s1).trans hl
  have f1 : scF σ1 = f := (congrArg Prod.snd s1).trans hf
  refine ⟨σ2, ?_, X', c', m', w', by omega, wf', (congrArg Prod.fst s2).trans hl, (congrArg Prod.snd s2).trans hf⟩
  simp only [s225_321, s225_327, s225_332, s225_335, s225_341, s225_346, s225_349, hl, hf, l1, f1, add1N, a2, a3, o1, o2, o3, k1, k2, k3, e1, e2, eq_self, Option.bind_some, Option.toList_some, Option.toList_none, List.cons_append, List.nil_append, true_or, or_true, if_true, if_false, i10, i01, Bool.false_eq_true]
theorem law_354 (h : LI L f j σ) (hj : 4 * j + 4 ≤ L) (hL : L ≤ 256) : ∃ σ', exec (d + 13) 225 354 [vR 64 0, vR 6 0, vR 7 0, vI (nI (4 * j))] [] σ = exec (d + 13) 225 961 [vR 64 0, vR 6 0, vR 7 0, vI (nI (4 * j))] [] σ' ∧ LI L f (j + 1) σ' := by
  obtain ⟨X, hc, hm, hx, hr, hw, hl, hf⟩ := h
  have a2 : nI (4 * j) + 2 = nI (4 * j + 2) := by rw [show (2 : Int32) = nI 2 from rfl, addN]
  have a3 : nI (4 * j) + 3 = nI (4 * j + 3) := by rw [show (3 : Int32) = nI 3 from rfl, addN]
  have o1 := oob_nI (show 4 * j + 1 < L by omega) (show L ≤ 1000 by omega)
  have o2 := oob_nI (show 4 * j + 2 < L by omega) (show L ≤ 1000 by omega)
  have o3 := oob_nI (show 4 * j + 3 < L by omega) (show L ≤ 1000 by omega)
  have k1 := clN (show 4 * j + 1 ≤ 100000 by omega)
  have k2 := clN (show 4 * j + 2 ≤ 100000 by omega)
  have k3 := clN (show 4 * j + 3 ≤ 100000 by omega)
  obtain ⟨v, σ1, σ2, X', e1, e2, c', m', w', r', s1, s2, wf'⟩ := op_wall (d := d) (x := f (4 * j + 1)) (y := f (4 * j + 2)) hw hc hm hx
  have l1 : scL σ1 = L := (congrArg Prod.fst s1).trans hl
  have f1 : scF σ1 = f := (congrArg Prod.snd s1).trans hf
  refine ⟨σ2, ?_, X', c', m', w', by omega, wf', (congrArg Prod.fst s2).trans hl, (congrArg Prod.snd s2).trans hf⟩
  simp only [s225_354, s225_360, s225_365, s225_368, s225_374, s225_379, s225_382, hl, hf, l1, f1, add1N, a2, a3, o1, o2, o3, k1, k2, k3, e1, e2, eq_self, Option.bind_some, Option.toList_some, Option.toList_none, List.cons_append, List.nil_append, true_or, or_true, if_true, if_false, i10, i01, Bool.false_eq_true]
theorem law_387 (h : LI L f j σ) (hj : 4 * j + 4 ≤ L) (hL : L ≤ 256) : ∃ σ', exec (d + 13) 225 387 [vR 64 0, vR 6 0, vR 7 0, vI (nI (4 * j))] [] σ = exec (d + 13) 225 961 [vR 64 0, vR 6 0, vR 7 0, vI (nI (4 * j))] [] σ' ∧ LI L f (j + 1) σ' := by
  obtain ⟨X, hc, hm, hx, hr, hw, hl, hf⟩ := h
  have a2 : nI (4 * j) + 2 = nI (4 * j + 2) := by rw [show (2 : Int32) = nI 2 from rfl, addN]
  have a3 : nI (4 * j) + 3 = nI (4 * j + 3) := by rw [show (3 : Int32) = nI 3 from rfl, addN]
  have o1 := oob_nI (show 4 * j + 1 < L by omega) (show L ≤ 1000 by omega)
  have o2 := oob_nI (show 4 * j + 2 < L by omega) (show L ≤ 1000 by omega)
  have o3 := oob_nI (show 4 * j + 3 < L by omega) (show L ≤ 1000 by omega)
  have k1 := clN (show 4 * j + 1 ≤ 100000 by omega)
  have k2 := clN (show 4 * j + 2 ≤ 100000 by omega)
  have k3 := clN (show 4 * j + 3 ≤ 100000 by omega)
  obtain ⟨v, σ1, σ2, X', e1, e2, c', m', w', r', s1, s2, wf'⟩ := op_quarrel (d := d) (x := f (4 * j + 1)) (y := f (4 * j + 2)) (z := f (4 * j + 3)) hw hc hm hx
  have l1 : scL σ1 = L := (congrArg Prod.fst s1).trans hl
  have f1 : scF σ1 = f := (congrArg Prod.snd s1).trans hf
  refine ⟨σ2, ?_, X', c', m', w', by omega, wf', (congrArg Prod.fst s2).trans hl, (congrArg Prod.snd s2).trans hf⟩
  simp only [s225_387, s225_393, s225_398, s225_403, s225_406, s225_412, s225_417, s225_422, s225_425, hl, hf, l1, f1, add1N, a2, a3, o1, o2, o3, k1, k2, k3, e1, e2, eq_self, Option.bind_some, Option.toList_some, Option.toList_none, List.cons_append, List.nil_append, true_or, or_true, if_true, if_false, i10, i01, Bool.false_eq_true]
theorem law_430 (h : LI L f j σ) (hj : 4 * j + 4 ≤ L) (hL : L ≤ 256) : ∃ σ', exec (d + 13) 225 430 [vR 64 0, vR 6 0, vR 7 0, vI (nI (4 * j))] [] σ = exec (d + 13) 225 961 [vR 64 0, vR 6 0, vR 7 0, vI (nI (4 * j))] [] σ' ∧ LI L f (j + 1) σ' := by
  obtain ⟨X, hc, hm, hx, hr, hw, hl, hf⟩ := h
  have a2 : nI (4 * j) + 2 = nI (4 * j + 2) := by rw [show (2 : Int32) = nI 2 from rfl, addN]
  have a3 : nI (4 * j) + 3 = nI (4 * j + 3) := by rw [show (3 : Int32) = nI 3 from rfl, addN]
  have o1 := oob_nI (show 4 * j + 1 < L by omega) (show L ≤ 1000 by omega)
  have o2 := oob_nI (show 4 * j + 2 < L by omega) (show L ≤ 1000 by omega)
  have o3 := oob_nI (show 4 * j + 3 < L by omega) (show L ≤ 1000 by omega)
  have k1 := clN (show 4 * j + 1 ≤ 100000 by omega)
  have k2 := clN (show 4 * j + 2 ≤ 100000 by omega)
  have k3 := clN (show 4 * j + 3 ≤ 100000 by omega)
  obtain ⟨v, σ1, σ2, X', e1, e2, c', m', w', r', s1, s2, wf'⟩ := op_peace (d := d) (x := f (4 * j + 1)) (y := f (4 * j + 2)) hw hc hm hx
  have l1 : scL σ1 = L := (congrArg Prod.fst s1).trans hl
  have f1 : scF σ1 = f := (congrArg Prod.snd s1).trans hf
  refine ⟨σ2, ?_, X', c', m', w', by omega, wf', (congrArg Prod.fst s2).trans hl, (congrArg Prod.snd s2).trans hf⟩
  simp only [s225_430, s225_436, s225_441, s225_444, s225_450, s225_455, s225_458, hl, hf, l1, f1, add1N, a2, a3, o1, o2, o3, k1, k2, k3, e1, e2, eq_self, Option.bind_some, Option.toList_some, Option.toList_none, List.cons_append, List.nil_append, true_or, or_true, if_true, if_false, i10, i01, Bool.false_eq_true]
theorem law_463 (h : LI L f j σ) (hj : 4 * j + 4 ≤ L) (hL : L ≤ 256) : ∃ σ', exec (d + 13) 225 463 [vR 64 0, vR 6 0, vR 7 0, vI (nI (4 * j))] [] σ = exec (d + 13) 225 961 [vR 64 0, vR 6 0, vR 7 0, vI (nI (4 * j))] [] σ' ∧ LI L f (j + 1) σ' := by
  obtain ⟨X, hc, hm, hx, hr, hw, hl, hf⟩ := h
  have a2 : nI (4 * j) + 2 = nI (4 * j + 2) := by rw [show (2 : Int32) = nI 2 from rfl, addN]
  have a3 : nI (4 * j) + 3 = nI (4 * j + 3) := by rw [show (3 : Int32) = nI 3 from rfl, addN]
  have o1 := oob_nI (show 4 * j + 1 < L by omega) (show L ≤ 1000 by omega)
  have o2 := oob_nI (show 4 * j + 2 < L by omega) (show L ≤ 1000 by omega)
  have o3 := oob_nI (show 4 * j + 3 < L by omega) (show L ≤ 1000 by omega)
  have k1 := clN (show 4 * j + 1 ≤ 100000 by omega)
  have k2 := clN (show 4 * j + 2 ≤ 100000 by omega)
  have k3 := clN (show 4 * j + 3 ≤ 100000 by omega)
  by_cases c : f (4 * j + 3) = 0
  · obtain ⟨v, σ1, σ2, X', e1, e2, c', m', w', r', s1, s2, wf'⟩ := op_build (d := d) (x := f (4 * j + 1)) (y := f (4 * j + 2)) (z := 0) hw hc hm hx
    have l1 : scL σ1 = L := (congrArg Prod.fst s1).trans hl
    have f1 : scF σ1 = f := (congrArg Prod.snd s1).trans hf
    refine ⟨σ2, ?_, X', c', m', w', by omega, wf', (congrArg Prod.fst s2).trans hl, (congrArg Prod.snd s2).trans hf⟩
    simp only [c, s225_463, s225_469, s225_474, s225_479, s225_486, s225_487, s225_490, s225_496, s225_501, s225_506, s225_513, s225_514, s225_517, hl, hf, l1, f1, add1N, a2, a3, o1, o2, o3, k1, k2, k3, e1, e2, eq_self, Option.bind_some, Option.toList_some, Option.toList_none, List.cons_append, List.nil_append, true_or, or_true, if_true, if_false, i10, i01, Bool.false_eq_true]
  · obtain ⟨v, σ1, σ2, X', e1, e2, c', m', w', r', s1, s2, wf'⟩ := op_build (d := d) (x := f (4 * j + 1)) (y := f (4 * j + 2)) (z := 1) hw hc hm hx
    have l1 : scL σ1 = L := (congrArg Prod.fst s1).trans hl
    have f1 : scF σ1 = f := (congrArg Prod.snd s1).trans hf
    refine ⟨σ2, ?_, X', c', m', w', by omega, wf', (congrArg Prod.fst s2).trans hl, (congrArg Prod.snd s2).trans hf⟩
    simp only [c, s225_463, s225_469, s225_474, s225_479, s225_482, s225_487, s225_490, s225_496, s225_501, s225_506, s225_509, s225_514, s225_517, hl, hf, l1, f1, add1N, a2, a3, o1, o2, o3, k1, k2, k3, e1, e2, eq_self, Option.bind_some, Option.toList_some, Option.toList_none, List.cons_append, List.nil_append, true_or, or_true, if_true, if_false, i10, i01, Bool.false_eq_true]
theorem law_522 (h : LI L f j σ) (hj : 4 * j + 4 ≤ L) (hL : L ≤ 256) : ∃ σ', exec (d + 13) 225 522 [vR 64 0, vR 6 0, vR 7 0, vI (nI (4 * j))] [] σ = exec (d + 13) 225 961 [vR 64 0, vR 6 0, vR 7 0, vI (nI (4 * j))] [] σ' ∧ LI L f (j + 1) σ' := by
  obtain ⟨X, hc, hm, hx, hr, hw, hl, hf⟩ := h
  have a2 : nI (4 * j) + 2 = nI (4 * j + 2) := by rw [show (2 : Int32) = nI 2 from rfl, addN]
  have a3 : nI (4 * j) + 3 = nI (4 * j + 3) := by rw [show (3 : Int32) = nI 3 from rfl, addN]
  have o1 := oob_nI (show 4 * j + 1 < L by omega) (show L ≤ 1000 by omega)
  have o2 := oob_nI (show 4 * j + 2 < L by omega) (show L ≤ 1000 by omega)
  have o3 := oob_nI (show 4 * j + 3 < L by omega) (show L ≤ 1000 by omega)
  have k1 := clN (show 4 * j + 1 ≤ 100000 by omega)
  have k2 := clN (show 4 * j + 2 ≤ 100000 by omega)
  have k3 := clN (show 4 * j + 3 ≤ 100000 by omega)
  obtain ⟨v, σ1, σ2, X', e1, e2, c', m', w', r', s1, s2, wf'⟩ := op_tenant (d := d) (x := f (4 * j + 1)) (y := f (4 * j + 2)) hw hc hm hx
  have l1 : scL σ1 = L := (congrArg Prod.fst s1).trans hl
  have f1 : scF σ1 = f := (congrArg Prod.snd s1).trans hf
  refine ⟨σ2, ?_, X', c', m', w', by omega, wf', (congrArg Prod.fst s2).trans hl, (congrArg Prod.snd s2).trans hf⟩
  simp only [s225_522, s225_528, s225_533, s225_536, s225_542, s225_547, s225_550, hl, hf, l1, f1, add1N, a2, a3, o1, o2, o3, k1, k2, k3, e1, e2, eq_self, Option.bind_some, Option.toList_some, Option.toList_none, List.cons_append, List.nil_append, true_or, or_true, if_true, if_false, i10, i01, Bool.false_eq_true]
theorem law_555 (h : LI L f j σ) (hj : 4 * j + 4 ≤ L) (hL : L ≤ 256) : ∃ σ', exec (d + 13) 225 555 [vR 64 0, vR 6 0, vR 7 0, vI (nI (4 * j))] [] σ = exec (d + 13) 225 961 [vR 64 0, vR 6 0, vR 7 0, vI (nI (4 * j))] [] σ' ∧ LI L f (j + 1) σ' := by
  obtain ⟨X, hc, hm, hx, hr, hw, hl, hf⟩ := h
  have a2 : nI (4 * j) + 2 = nI (4 * j + 2) := by rw [show (2 : Int32) = nI 2 from rfl, addN]
  have a3 : nI (4 * j) + 3 = nI (4 * j + 3) := by rw [show (3 : Int32) = nI 3 from rfl, addN]
  have o1 := oob_nI (show 4 * j + 1 < L by omega) (show L ≤ 1000 by omega)
  have o2 := oob_nI (show 4 * j + 2 < L by omega) (show L ≤ 1000 by omega)
  have o3 := oob_nI (show 4 * j + 3 < L by omega) (show L ≤ 1000 by omega)
  have k1 := clN (show 4 * j + 1 ≤ 100000 by omega)
  have k2 := clN (show 4 * j + 2 ≤ 100000 by omega)
  have k3 := clN (show 4 * j + 3 ≤ 100000 by omega)
  obtain ⟨v, σ1, σ2, X', e1, e2, c', m', w', r', s1, s2, wf'⟩ := op_court (d := d)  hw hc hm hx
  have l1 : scL σ1 = L := (congrArg Prod.fst s1).trans hl
  have f1 : scF σ1 = f := (congrArg Prod.snd s1).trans hf
  refine ⟨σ2, ?_, X', c', m', w', by omega, wf', (congrArg Prod.fst s2).trans hl, (congrArg Prod.snd s2).trans hf⟩
  simp only [s225_555, s225_559, s225_563, hl, hf, l1, f1, add1N, a2, a3, o1, o2, o3, k1, k2, k3, e1, e2, eq_self, Option.bind_some, Option.toList_some, Option.toList_none, List.cons_append, List.nil_append, true_or, or_true, if_true, if_false, i10, i01, Bool.false_eq_true]
theorem law_568 (h : LI L f j σ) (hj : 4 * j + 4 ≤ L) (hL : L ≤ 256) : ∃ σ', exec (d + 13) 225 568 [vR 64 0, vR 6 0, vR 7 0, vI (nI (4 * j))] [] σ = exec (d + 13) 225 961 [vR 64 0, vR 6 0, vR 7 0, vI (nI (4 * j))] [] σ' ∧ LI L f (j + 1) σ' := by
  obtain ⟨X, hc, hm, hx, hr, hw, hl, hf⟩ := h
  have a2 : nI (4 * j) + 2 = nI (4 * j + 2) := by rw [show (2 : Int32) = nI 2 from rfl, addN]
  have a3 : nI (4 * j) + 3 = nI (4 * j + 3) := by rw [show (3 : Int32) = nI 3 from rfl, addN]
  have o1 := oob_nI (show 4 * j + 1 < L by omega) (show L ≤ 1000 by omega)
  have o2 := oob_nI (show 4 * j + 2 < L by omega) (show L ≤ 1000 by omega)
  have o3 := oob_nI (show 4 * j + 3 < L by omega) (show L ≤ 1000 by omega)
  have k1 := clN (show 4 * j + 1 ≤ 100000 by omega)
  have k2 := clN (show 4 * j + 2 ≤ 100000 by omega)
  have k3 := clN (show 4 * j + 3 ≤ 100000 by omega)
  obtain ⟨v, σ1, σ2, X', e1, e2, c', m', w', r', s1, s2, wf'⟩ := op_morning (d := d)  hw hc hm hx
  have l1 : scL σ1 = L := (congrArg Prod.fst s1).trans hl
  have f1 : scF σ1 = f := (congrArg Prod.snd s1).trans hf
  refine ⟨σ2, ?_, X', c', m', w', by omega, wf', (congrArg Prod.fst s2).trans hl, (congrArg Prod.snd s2).trans hf⟩
  simp only [s225_568, s225_572, s225_576, hl, hf, l1, f1, add1N, a2, a3, o1, o2, o3, k1, k2, k3, e1, e2, eq_self, Option.bind_some, Option.toList_some, Option.toList_none, List.cons_append, List.nil_append, true_or, or_true, if_true, if_false, i10, i01, Bool.false_eq_true]
theorem law_581 (h : LI L f j σ) (hj : 4 * j + 4 ≤ L) (hL : L ≤ 256) : ∃ σ', exec (d + 13) 225 581 [vR 64 0, vR 6 0, vR 7 0, vI (nI (4 * j))] [] σ = exec (d + 13) 225 961 [vR 64 0, vR 6 0, vR 7 0, vI (nI (4 * j))] [] σ' ∧ LI L f (j + 1) σ' := by
  obtain ⟨X, hc, hm, hx, hr, hw, hl, hf⟩ := h
  have a2 : nI (4 * j) + 2 = nI (4 * j + 2) := by rw [show (2 : Int32) = nI 2 from rfl, addN]
  have a3 : nI (4 * j) + 3 = nI (4 * j + 3) := by rw [show (3 : Int32) = nI 3 from rfl, addN]
  have o1 := oob_nI (show 4 * j + 1 < L by omega) (show L ≤ 1000 by omega)
  have o2 := oob_nI (show 4 * j + 2 < L by omega) (show L ≤ 1000 by omega)
  have o3 := oob_nI (show 4 * j + 3 < L by omega) (show L ≤ 1000 by omega)
  have k1 := clN (show 4 * j + 1 ≤ 100000 by omega)
  have k2 := clN (show 4 * j + 2 ≤ 100000 by omega)
  have k3 := clN (show 4 * j + 3 ≤ 100000 by omega)
  obtain ⟨v, σ1, σ2, X', e1, e2, c', m', w', r', s1, s2, wf'⟩ := op_settles (d := d) (x := f (4 * j + 1)) hw hc hm hx
  have l1 : scL σ1 = L := (congrArg Prod.fst s1).trans hl
  have f1 : scF σ1 = f := (congrArg Prod.snd s1).trans hf
  refine ⟨σ2, ?_, X', c', m', w', by omega, wf', (congrArg Prod.fst s2).trans hl, (congrArg Prod.snd s2).trans hf⟩
  simp only [s225_581, s225_587, s225_590, s225_596, s225_599, hl, hf, l1, f1, add1N, a2, a3, o1, o2, o3, k1, k2, k3, e1, e2, eq_self, Option.bind_some, Option.toList_some, Option.toList_none, List.cons_append, List.nil_append, true_or, or_true, if_true, if_false, i10, i01, Bool.false_eq_true]
theorem law_604 (h : LI L f j σ) (hj : 4 * j + 4 ≤ L) (hL : L ≤ 256) : ∃ σ', exec (d + 13) 225 604 [vR 64 0, vR 6 0, vR 7 0, vI (nI (4 * j))] [] σ = exec (d + 13) 225 961 [vR 64 0, vR 6 0, vR 7 0, vI (nI (4 * j))] [] σ' ∧ LI L f (j + 1) σ' := by
  obtain ⟨X, hc, hm, hx, hr, hw, hl, hf⟩ := h
  have a2 : nI (4 * j) + 2 = nI (4 * j + 2) := by rw [show (2 : Int32) = nI 2 from rfl, addN]
  have a3 : nI (4 * j) + 3 = nI (4 * j + 3) := by rw [show (3 : Int32) = nI 3 from rfl, addN]
  have o1 := oob_nI (show 4 * j + 1 < L by omega) (show L ≤ 1000 by omega)
  have o2 := oob_nI (show 4 * j + 2 < L by omega) (show L ≤ 1000 by omega)
  have o3 := oob_nI (show 4 * j + 3 < L by omega) (show L ≤ 1000 by omega)
  have k1 := clN (show 4 * j + 1 ≤ 100000 by omega)
  have k2 := clN (show 4 * j + 2 ≤ 100000 by omega)
  have k3 := clN (show 4 * j + 3 ≤ 100000 by omega)
  obtain ⟨v, σ1, σ2, X', e1, e2, c', m', w', r', s1, s2, wf'⟩ := op_calm (d := d) (x := f (4 * j + 1)) (y := f (4 * j + 2)) (z := f (4 * j + 3)) hw hc hm hx
  have l1 : scL σ1 = L := (congrArg Prod.fst s1).trans hl
  have f1 : scF σ1 = f := (congrArg Prod.snd s1).trans hf
  refine ⟨σ2, ?_, X', c', m', w', by omega, wf', (congrArg Prod.fst s2).trans hl, (congrArg Prod.snd s2).trans hf⟩
  simp only [s225_604, s225_610, s225_615, s225_620, s225_623, s225_629, s225_634, s225_639, s225_642, hl, hf, l1, f1, add1N, a2, a3, o1, o2, o3, k1, k2, k3, e1, e2, eq_self, Option.bind_some, Option.toList_some, Option.toList_none, List.cons_append, List.nil_append, true_or, or_true, if_true, if_false, i10, i01, Bool.false_eq_true]
theorem law_647 (h : LI L f j σ) (hj : 4 * j + 4 ≤ L) (hL : L ≤ 256) : ∃ σ', exec (d + 13) 225 647 [vR 64 0, vR 6 0, vR 7 0, vI (nI (4 * j))] [] σ = exec (d + 13) 225 961 [vR 64 0, vR 6 0, vR 7 0, vI (nI (4 * j))] [] σ' ∧ LI L f (j + 1) σ' := by
  obtain ⟨X, hc, hm, hx, hr, hw, hl, hf⟩ := h
  have a2 : nI (4 * j) + 2 = nI (4 * j + 2) := by rw [show (2 : Int32) = nI 2 from rfl, addN]
  have a3 : nI (4 * j) + 3 = nI (4 * j + 3) := by rw [show (3 : Int32) = nI 3 from rfl, addN]
  have o1 := oob_nI (show 4 * j + 1 < L by omega) (show L ≤ 1000 by omega)
  have o2 := oob_nI (show 4 * j + 2 < L by omega) (show L ≤ 1000 by omega)
  have o3 := oob_nI (show 4 * j + 3 < L by omega) (show L ≤ 1000 by omega)
  have k1 := clN (show 4 * j + 1 ≤ 100000 by omega)
  have k2 := clN (show 4 * j + 2 ≤ 100000 by omega)
  have k3 := clN (show 4 * j + 3 ≤ 100000 by omega)
  obtain ⟨v, σ1, σ2, X', e1, e2, c', m', w', r', s1, s2, wf'⟩ := op_arbiter (d := d) (x := f (4 * j + 1)) (y := f (4 * j + 2)) hw hc hm hx
  have l1 : scL σ1 = L := (congrArg Prod.fst s1).trans hl
  have f1 : scF σ1 = f := (congrArg Prod.snd s1).trans hf
  refine ⟨σ2, ?_, X', c', m', w', by omega, wf', (congrArg Prod.fst s2).trans hl, (congrArg Prod.snd s2).trans hf⟩
  simp only [s225_647, s225_653, s225_658, s225_661, s225_667, s225_672, s225_675, hl, hf, l1, f1, add1N, a2, a3, o1, o2, o3, k1, k2, k3, e1, e2, eq_self, Option.bind_some, Option.toList_some, Option.toList_none, List.cons_append, List.nil_append, true_or, or_true, if_true, if_false, i10, i01, Bool.false_eq_true]
theorem law_680 (h : LI L f j σ) (hj : 4 * j + 4 ≤ L) (hL : L ≤ 256) : ∃ σ', exec (d + 13) 225 680 [vR 64 0, vR 6 0, vR 7 0, vI (nI (4 * j))] [] σ = exec (d + 13) 225 961 [vR 64 0, vR 6 0, vR 7 0, vI (nI (4 * j))] [] σ' ∧ LI L f (j + 1) σ' := by
  obtain ⟨X, hc, hm, hx, hr, hw, hl, hf⟩ := h
  have a2 : nI (4 * j) + 2 = nI (4 * j + 2) := by rw [show (2 : Int32) = nI 2 from rfl, addN]
  have a3 : nI (4 * j) + 3 = nI (4 * j + 3) := by rw [show (3 : Int32) = nI 3 from rfl, addN]
  have o1 := oob_nI (show 4 * j + 1 < L by omega) (show L ≤ 1000 by omega)
  have o2 := oob_nI (show 4 * j + 2 < L by omega) (show L ≤ 1000 by omega)
  have o3 := oob_nI (show 4 * j + 3 < L by omega) (show L ≤ 1000 by omega)
  have k1 := clN (show 4 * j + 1 ≤ 100000 by omega)
  have k2 := clN (show 4 * j + 2 ≤ 100000 by omega)
  have k3 := clN (show 4 * j + 3 ≤ 100000 by omega)
  obtain ⟨v, σ1, σ2, X', e1, e2, c', m', w', r', s1, s2, wf'⟩ := op_grudge (d := d) (x := f (4 * j + 1)) (y := f (4 * j + 2)) (z := f (4 * j + 3)) hw hc hm hx
  have l1 : scL σ1 = L := (congrArg Prod.fst s1).trans hl
  have f1 : scF σ1 = f := (congrArg Prod.snd s1).trans hf
  refine ⟨σ2, ?_, X', c', m', w', by omega, wf', (congrArg Prod.fst s2).trans hl, (congrArg Prod.snd s2).trans hf⟩
  simp only [s225_680, s225_686, s225_691, s225_696, s225_699, s225_705, s225_710, s225_715, s225_718, hl, hf, l1, f1, add1N, a2, a3, o1, o2, o3, k1, k2, k3, e1, e2, eq_self, Option.bind_some, Option.toList_some, Option.toList_none, List.cons_append, List.nil_append, true_or, or_true, if_true, if_false, i10, i01, Bool.false_eq_true]
theorem law_723 (h : LI L f j σ) (hj : 4 * j + 4 ≤ L) (hL : L ≤ 256) : ∃ σ', exec (d + 13) 225 723 [vR 64 0, vR 6 0, vR 7 0, vI (nI (4 * j))] [] σ = exec (d + 13) 225 961 [vR 64 0, vR 6 0, vR 7 0, vI (nI (4 * j))] [] σ' ∧ LI L f (j + 1) σ' := by
  obtain ⟨X, hc, hm, hx, hr, hw, hl, hf⟩ := h
  have a2 : nI (4 * j) + 2 = nI (4 * j + 2) := by rw [show (2 : Int32) = nI 2 from rfl, addN]
  have a3 : nI (4 * j) + 3 = nI (4 * j + 3) := by rw [show (3 : Int32) = nI 3 from rfl, addN]
  have o1 := oob_nI (show 4 * j + 1 < L by omega) (show L ≤ 1000 by omega)
  have o2 := oob_nI (show 4 * j + 2 < L by omega) (show L ≤ 1000 by omega)
  have o3 := oob_nI (show 4 * j + 3 < L by omega) (show L ≤ 1000 by omega)
  have k1 := clN (show 4 * j + 1 ≤ 100000 by omega)
  have k2 := clN (show 4 * j + 2 ≤ 100000 by omega)
  have k3 := clN (show 4 * j + 3 ≤ 100000 by omega)
  obtain ⟨v, σ1, σ2, X', e1, e2, c', m', w', r', s1, s2, wf'⟩ := op_walls (d := d) (x := f (4 * j + 1)) (y := f (4 * j + 2)) hw hc hm hx
  have l1 : scL σ1 = L := (congrArg Prod.fst s1).trans hl
  have f1 : scF σ1 = f := (congrArg Prod.snd s1).trans hf
  refine ⟨σ2, ?_, X', c', m', w', by omega, wf', (congrArg Prod.fst s2).trans hl, (congrArg Prod.snd s2).trans hf⟩
  simp only [s225_723, s225_729, s225_734, s225_737, s225_743, s225_748, s225_751, hl, hf, l1, f1, add1N, a2, a3, o1, o2, o3, k1, k2, k3, e1, e2, eq_self, Option.bind_some, Option.toList_some, Option.toList_none, List.cons_append, List.nil_append, true_or, or_true, if_true, if_false, i10, i01, Bool.false_eq_true]
theorem law_756 (h : LI L f j σ) (hj : 4 * j + 4 ≤ L) (hL : L ≤ 256) : ∃ σ', exec (d + 13) 225 756 [vR 64 0, vR 6 0, vR 7 0, vI (nI (4 * j))] [] σ = exec (d + 13) 225 961 [vR 64 0, vR 6 0, vR 7 0, vI (nI (4 * j))] [] σ' ∧ LI L f (j + 1) σ' := by
  obtain ⟨X, hc, hm, hx, hr, hw, hl, hf⟩ := h
  have a2 : nI (4 * j) + 2 = nI (4 * j + 2) := by rw [show (2 : Int32) = nI 2 from rfl, addN]
  have a3 : nI (4 * j) + 3 = nI (4 * j + 3) := by rw [show (3 : Int32) = nI 3 from rfl, addN]
  have o1 := oob_nI (show 4 * j + 1 < L by omega) (show L ≤ 1000 by omega)
  have o2 := oob_nI (show 4 * j + 2 < L by omega) (show L ≤ 1000 by omega)
  have o3 := oob_nI (show 4 * j + 3 < L by omega) (show L ≤ 1000 by omega)
  have k1 := clN (show 4 * j + 1 ≤ 100000 by omega)
  have k2 := clN (show 4 * j + 2 ≤ 100000 by omega)
  have k3 := clN (show 4 * j + 3 ≤ 100000 by omega)
  obtain ⟨v, σ1, σ2, X', e1, e2, c', m', w', r', s1, s2, wf'⟩ := op_see (d := d) (x := f (4 * j + 1)) (y := f (4 * j + 2)) (z := f (4 * j + 3)) hw hc hm hx
  have l1 : scL σ1 = L := (congrArg Prod.fst s1).trans hl
  have f1 : scF σ1 = f := (congrArg Prod.snd s1).trans hf
  refine ⟨σ2, ?_, X', c', m', w', by omega, wf', (congrArg Prod.fst s2).trans hl, (congrArg Prod.snd s2).trans hf⟩
  simp only [s225_756, s225_762, s225_767, s225_772, s225_775, s225_781, s225_786, s225_791, s225_794, hl, hf, l1, f1, add1N, a2, a3, o1, o2, o3, k1, k2, k3, e1, e2, eq_self, Option.bind_some, Option.toList_some, Option.toList_none, List.cons_append, List.nil_append, true_or, or_true, if_true, if_false, i10, i01, Bool.false_eq_true]
theorem law_799 (h : LI L f j σ) (hj : 4 * j + 4 ≤ L) (hL : L ≤ 256) : ∃ σ', exec (d + 13) 225 799 [vR 64 0, vR 6 0, vR 7 0, vI (nI (4 * j))] [] σ = exec (d + 13) 225 961 [vR 64 0, vR 6 0, vR 7 0, vI (nI (4 * j))] [] σ' ∧ LI L f (j + 1) σ' := by
  obtain ⟨X, hc, hm, hx, hr, hw, hl, hf⟩ := h
  have a2 : nI (4 * j) + 2 = nI (4 * j + 2) := by rw [show (2 : Int32) = nI 2 from rfl, addN]
  have a3 : nI (4 * j) + 3 = nI (4 * j + 3) := by rw [show (3 : Int32) = nI 3 from rfl, addN]
  have o1 := oob_nI (show 4 * j + 1 < L by omega) (show L ≤ 1000 by omega)
  have o2 := oob_nI (show 4 * j + 2 < L by omega) (show L ≤ 1000 by omega)
  have o3 := oob_nI (show 4 * j + 3 < L by omega) (show L ≤ 1000 by omega)
  have k1 := clN (show 4 * j + 1 ≤ 100000 by omega)
  have k2 := clN (show 4 * j + 2 ≤ 100000 by omega)
  have k3 := clN (show 4 * j + 3 ≤ 100000 by omega)
  obtain ⟨v, σ1, σ2, X', e1, e2, c', m', w', r', s1, s2, wf'⟩ := op_forget (d := d)  hw hc hm hx
  have l1 : scL σ1 = L := (congrArg Prod.fst s1).trans hl
  have f1 : scF σ1 = f := (congrArg Prod.snd s1).trans hf
  refine ⟨σ2, ?_, X', c', m', w', by omega, wf', (congrArg Prod.fst s2).trans hl, (congrArg Prod.snd s2).trans hf⟩
  simp only [s225_799, s225_803, s225_807, hl, hf, l1, f1, add1N, a2, a3, o1, o2, o3, k1, k2, k3, e1, e2, eq_self, Option.bind_some, Option.toList_some, Option.toList_none, List.cons_append, List.nil_append, true_or, or_true, if_true, if_false, i10, i01, Bool.false_eq_true]
theorem law_812 (h : LI L f j σ) (hj : 4 * j + 4 ≤ L) (hL : L ≤ 256) : ∃ σ', exec (d + 13) 225 812 [vR 64 0, vR 6 0, vR 7 0, vI (nI (4 * j))] [] σ = exec (d + 13) 225 961 [vR 64 0, vR 6 0, vR 7 0, vI (nI (4 * j))] [] σ' ∧ LI L f (j + 1) σ' := by
  obtain ⟨X, hc, hm, hx, hr, hw, hl, hf⟩ := h
  have a2 : nI (4 * j) + 2 = nI (4 * j + 2) := by rw [show (2 : Int32) = nI 2 from rfl, addN]
  have a3 : nI (4 * j) + 3 = nI (4 * j + 3) := by rw [show (3 : Int32) = nI 3 from rfl, addN]
  have o1 := oob_nI (show 4 * j + 1 < L by omega) (show L ≤ 1000 by omega)
  have o2 := oob_nI (show 4 * j + 2 < L by omega) (show L ≤ 1000 by omega)
  have o3 := oob_nI (show 4 * j + 3 < L by omega) (show L ≤ 1000 by omega)
  have k1 := clN (show 4 * j + 1 ≤ 100000 by omega)
  have k2 := clN (show 4 * j + 2 ≤ 100000 by omega)
  have k3 := clN (show 4 * j + 3 ≤ 100000 by omega)
  obtain ⟨v, σ1, σ2, X', e1, e2, c', m', w', r', s1, s2, wf'⟩ := op_span (d := d) (x := f (4 * j + 1)) (y := f (4 * j + 2)) (z := f (4 * j + 3)) hw hc hm hx
  have l1 : scL σ1 = L := (congrArg Prod.fst s1).trans hl
  have f1 : scF σ1 = f := (congrArg Prod.snd s1).trans hf
  refine ⟨σ2, ?_, X', c', m', w', by omega, wf', (congrArg Prod.fst s2).trans hl, (congrArg Prod.snd s2).trans hf⟩
  simp only [s225_812, s225_818, s225_823, s225_828, s225_831, s225_837, s225_842, s225_847, s225_850, hl, hf, l1, f1, add1N, a2, a3, o1, o2, o3, k1, k2, k3, e1, e2, eq_self, Option.bind_some, Option.toList_some, Option.toList_none, List.cons_append, List.nil_append, true_or, or_true, if_true, if_false, i10, i01, Bool.false_eq_true]
theorem law_855 (h : LI L f j σ) (hj : 4 * j + 4 ≤ L) (hL : L ≤ 256) : ∃ σ', exec (d + 13) 225 855 [vR 64 0, vR 6 0, vR 7 0, vI (nI (4 * j))] [] σ = exec (d + 13) 225 961 [vR 64 0, vR 6 0, vR 7 0, vI (nI (4 * j))] [] σ' ∧ LI L f (j + 1) σ' := by
  obtain ⟨X, hc, hm, hx, hr, hw, hl, hf⟩ := h
  have a2 : nI (4 * j) + 2 = nI (4 * j + 2) := by rw [show (2 : Int32) = nI 2 from rfl, addN]
  have a3 : nI (4 * j) + 3 = nI (4 * j + 3) := by rw [show (3 : Int32) = nI 3 from rfl, addN]
  have o1 := oob_nI (show 4 * j + 1 < L by omega) (show L ≤ 1000 by omega)
  have o2 := oob_nI (show 4 * j + 2 < L by omega) (show L ≤ 1000 by omega)
  have o3 := oob_nI (show 4 * j + 3 < L by omega) (show L ≤ 1000 by omega)
  have k1 := clN (show 4 * j + 1 ≤ 100000 by omega)
  have k2 := clN (show 4 * j + 2 ≤ 100000 by omega)
  have k3 := clN (show 4 * j + 3 ≤ 100000 by omega)
  obtain ⟨v, σ1, σ2, X', e1, e2, c', m', w', r', s1, s2, wf'⟩ := op_summers (d := d) (x := f (4 * j + 1)) (y := f (4 * j + 2)) (z := f (4 * j + 3)) hw hc hm hx
  have l1 : scL σ1 = L := (congrArg Prod.fst s1).trans hl
  have f1 : scF σ1 = f := (congrArg Prod.snd s1).trans hf
  refine ⟨σ2, ?_, X', c', m', w', by omega, wf', (congrArg Prod.fst s2).trans hl, (congrArg Prod.snd s2).trans hf⟩
  simp only [s225_855, s225_861, s225_866, s225_871, s225_874, s225_880, s225_885, s225_890, s225_893, hl, hf, l1, f1, add1N, a2, a3, o1, o2, o3, k1, k2, k3, e1, e2, eq_self, Option.bind_some, Option.toList_some, Option.toList_none, List.cons_append, List.nil_append, true_or, or_true, if_true, if_false, i10, i01, Bool.false_eq_true]
theorem law_898 (h : LI L f j σ) (hj : 4 * j + 4 ≤ L) (hL : L ≤ 256) : ∃ σ', exec (d + 13) 225 898 [vR 64 0, vR 6 0, vR 7 0, vI (nI (4 * j))] [] σ = exec (d + 13) 225 961 [vR 64 0, vR 6 0, vR 7 0, vI (nI (4 * j))] [] σ' ∧ LI L f (j + 1) σ' := by
  obtain ⟨X, hc, hm, hx, hr, hw, hl, hf⟩ := h
  have a2 : nI (4 * j) + 2 = nI (4 * j + 2) := by rw [show (2 : Int32) = nI 2 from rfl, addN]
  have a3 : nI (4 * j) + 3 = nI (4 * j + 3) := by rw [show (3 : Int32) = nI 3 from rfl, addN]
  have o1 := oob_nI (show 4 * j + 1 < L by omega) (show L ≤ 1000 by omega)
  have o2 := oob_nI (show 4 * j + 2 < L by omega) (show L ≤ 1000 by omega)
  have o3 := oob_nI (show 4 * j + 3 < L by omega) (show L ≤ 1000 by omega)
  have k1 := clN (show 4 * j + 1 ≤ 100000 by omega)
  have k2 := clN (show 4 * j + 2 ≤ 100000 by omega)
  have k3 := clN (show 4 * j + 3 ≤ 100000 by omega)
  obtain ⟨v, σ1, σ2, X', e1, e2, c', m', w', r', s1, s2, wf'⟩ := op_image (d := d)  hw hc hm hx
  have l1 : scL σ1 = L := (congrArg Prod.fst s1).trans hl
  have f1 : scF σ1 = f := (congrArg Prod.snd s1).trans hf
  refine ⟨σ2, ?_, X', c', m', w', by omega, wf', (congrArg Prod.fst s2).trans hl, (congrArg Prod.snd s2).trans hf⟩
  simp only [s225_898, s225_902, s225_906, hl, hf, l1, f1, add1N, a2, a3, o1, o2, o3, k1, k2, k3, e1, e2, eq_self, Option.bind_some, Option.toList_some, Option.toList_none, List.cons_append, List.nil_append, true_or, or_true, if_true, if_false, i10, i01, Bool.false_eq_true]
theorem law_911 (h : LI L f j σ) (hj : 4 * j + 4 ≤ L) (hL : L ≤ 256) : ∃ σ', exec (d + 13) 225 911 [vR 64 0, vR 6 0, vR 7 0, vI (nI (4 * j))] [] σ = exec (d + 13) 225 961 [vR 64 0, vR 6 0, vR 7 0, vI (nI (4 * j))] [] σ' ∧ LI L f (j + 1) σ' := by
  obtain ⟨X, hc, hm, hx, hr, hw, hl, hf⟩ := h
  have a2 : nI (4 * j) + 2 = nI (4 * j + 2) := by rw [show (2 : Int32) = nI 2 from rfl, addN]
  have a3 : nI (4 * j) + 3 = nI (4 * j + 3) := by rw [show (3 : Int32) = nI 3 from rfl, addN]
  have o1 := oob_nI (show 4 * j + 1 < L by omega) (show L ≤ 1000 by omega)
  have o2 := oob_nI (show 4 * j + 2 < L by omega) (show L ≤ 1000 by omega)
  have o3 := oob_nI (show 4 * j + 3 < L by omega) (show L ≤ 1000 by omega)
  have k1 := clN (show 4 * j + 1 ≤ 100000 by omega)
  have k2 := clN (show 4 * j + 2 ≤ 100000 by omega)
  have k3 := clN (show 4 * j + 3 ≤ 100000 by omega)
  obtain ⟨v, σ1, σ2, X', e1, e2, c', m', w', r', s1, s2, wf'⟩ := op_restore (d := d)  hw hc hm hx (by omega)
  have l1 : scL σ1 = L := (congrArg Prod.fst s1).trans hl
  have f1 : scF σ1 = f := (congrArg Prod.snd s1).trans hf
  refine ⟨σ2, ?_, X', c', m', w', by omega, wf', (congrArg Prod.fst s2).trans hl, (congrArg Prod.snd s2).trans hf⟩
  simp only [s225_911, s225_915, s225_919, hl, hf, l1, f1, add1N, a2, a3, o1, o2, o3, k1, k2, k3, e1, e2, eq_self, Option.bind_some, Option.toList_some, Option.toList_none, List.cons_append, List.nil_append, true_or, or_true, if_true, if_false, i10, i01, Bool.false_eq_true]
theorem law_924 (h : LI L f j σ) (hj : 4 * j + 4 ≤ L) (hL : L ≤ 256) : ∃ σ', exec (d + 13) 225 924 [vR 64 0, vR 6 0, vR 7 0, vI (nI (4 * j))] [] σ = exec (d + 13) 225 961 [vR 64 0, vR 6 0, vR 7 0, vI (nI (4 * j))] [] σ' ∧ LI L f (j + 1) σ' := by
  obtain ⟨X, hc, hm, hx, hr, hw, hl, hf⟩ := h
  have a2 : nI (4 * j) + 2 = nI (4 * j + 2) := by rw [show (2 : Int32) = nI 2 from rfl, addN]
  have a3 : nI (4 * j) + 3 = nI (4 * j + 3) := by rw [show (3 : Int32) = nI 3 from rfl, addN]
  have o1 := oob_nI (show 4 * j + 1 < L by omega) (show L ≤ 1000 by omega)
  have o2 := oob_nI (show 4 * j + 2 < L by omega) (show L ≤ 1000 by omega)
  have o3 := oob_nI (show 4 * j + 3 < L by omega) (show L ≤ 1000 by omega)
  have k1 := clN (show 4 * j + 1 ≤ 100000 by omega)
  have k2 := clN (show 4 * j + 2 ≤ 100000 by omega)
  have k3 := clN (show 4 * j + 3 ≤ 100000 by omega)
  obtain ⟨v, σ1, σ2, X', e1, e2, c', m', w', r', s1, s2, wf'⟩ := op_count (d := d) (x := f (4 * j + 1)) hw hc hm hx
  have l1 : scL σ1 = L := (congrArg Prod.fst s1).trans hl
  have f1 : scF σ1 = f := (congrArg Prod.snd s1).trans hf
  refine ⟨σ2, ?_, X', c', m', w', by omega, wf', (congrArg Prod.fst s2).trans hl, (congrArg Prod.snd s2).trans hf⟩
  simp only [s225_924, s225_930, s225_933, s225_939, s225_942, hl, hf, l1, f1, add1N, a2, a3, o1, o2, o3, k1, k2, k3, e1, e2, eq_self, Option.bind_some, Option.toList_some, Option.toList_none, List.cons_append, List.nil_append, true_or, or_true, if_true, if_false, i10, i01, Bool.false_eq_true]
theorem law_947 (h : LI L f j σ) (hj : 4 * j + 4 ≤ L) (hL : L ≤ 256) : ∃ σ', exec (d + 13) 225 947 [vR 64 0, vR 6 0, vR 7 0, vI (nI (4 * j))] [] σ = exec (d + 13) 225 961 [vR 64 0, vR 6 0, vR 7 0, vI (nI (4 * j))] [] σ' ∧ LI L f (j + 1) σ' := by
  obtain ⟨X, hc, hm, hx, hr, hw, hl, hf⟩ := h
  have a2 : nI (4 * j) + 2 = nI (4 * j + 2) := by rw [show (2 : Int32) = nI 2 from rfl, addN]
  have a3 : nI (4 * j) + 3 = nI (4 * j + 3) := by rw [show (3 : Int32) = nI 3 from rfl, addN]
  have o1 := oob_nI (show 4 * j + 1 < L by omega) (show L ≤ 1000 by omega)
  have o2 := oob_nI (show 4 * j + 2 < L by omega) (show L ≤ 1000 by omega)
  have o3 := oob_nI (show 4 * j + 3 < L by omega) (show L ≤ 1000 by omega)
  have k1 := clN (show 4 * j + 1 ≤ 100000 by omega)
  have k2 := clN (show 4 * j + 2 ≤ 100000 by omega)
  have k3 := clN (show 4 * j + 3 ≤ 100000 by omega)
  obtain ⟨v, σ1, σ2, X', e1, e2, c', m', w', r', s1, s2, wf'⟩ := op_digest (d := d) hw hc hm hx
  have l1 : scL σ1 = L := (congrArg Prod.fst s1).trans hl
  have f1 : scF σ1 = f := (congrArg Prod.snd s1).trans hf
  refine ⟨σ2, ?_, X', c', m', w', by omega, wf', (congrArg Prod.fst s2).trans hl, (congrArg Prod.snd s2).trans hf⟩
  simp only [s225_947, s225_951, s225_955, hl, hf, l1, f1, add1N, a2, a3, o1, o2, o3, k1, k2, k3, e1, e2, lg_same, eq_self, Option.bind_some, Option.toList_some, Option.toList_none, List.cons_append, List.nil_append, true_or, or_true, if_true, if_false, i10, i01, Bool.false_eq_true]
theorem law_sw (h : LI L f j σ) (hj : 4 * j + 4 ≤ L) (hL : L ≤ 256) : ∃ σ', exec (d + 13) 225 26 [vR 64 0, vR 6 0, vR 7 0, vI (nI (4 * j))] [] σ = exec (d + 13) 225 961 [vR 64 0, vR 6 0, vR 7 0, vI (nI (4 * j))] [] σ' ∧ LI L f (j + 1) σ' := by
  have h0 := h
  obtain ⟨X, hc, hm, hx, hr, hw, hl, hf⟩ := h
  have o0 : ¬ oob (nI (4 * j)) (scL σ) = true := by rw [hl, oob_nI (by omega) (by omega)]; exact Bool.false_ne_true
  rw [s225_26, if_neg o0, s225_29]
  by_cases c0 : (scF σ (nI (4 * j)).toNatClampNeg &&& 31).toInt = 0
  · rw [if_pos c0]
    exact law_160 h0 hj hL
  rw [if_neg c0]
  by_cases c1 : (scF σ (nI (4 * j)).toNatClampNeg &&& 31).toInt = 1
  · rw [if_pos c1]
    exact law_183 h0 hj hL
  rw [if_neg c1]
  by_cases c2 : (scF σ (nI (4 * j)).toNatClampNeg &&& 31).toInt = 2
  · rw [if_pos c2]
    exact law_196 h0 hj hL
  rw [if_neg c2]
  by_cases c3 : (scF σ (nI (4 * j)).toNatClampNeg &&& 31).toInt = 3
  · rw [if_pos c3]
    exact law_209 h0 hj hL
  rw [if_neg c3]
  by_cases c4 : (scF σ (nI (4 * j)).toNatClampNeg &&& 31).toInt = 4
  · rw [if_pos c4]
    exact law_222 h0 hj hL
  rw [if_neg c4]
  by_cases c5 : (scF σ (nI (4 * j)).toNatClampNeg &&& 31).toInt = 5
  · rw [if_pos c5]
    exact law_255 h0 hj hL
  rw [if_neg c5]
  by_cases c6 : (scF σ (nI (4 * j)).toNatClampNeg &&& 31).toInt = 6
  · rw [if_pos c6]
    exact law_288 h0 hj hL
  rw [if_neg c6]
  by_cases c7 : (scF σ (nI (4 * j)).toNatClampNeg &&& 31).toInt = 7
  · rw [if_pos c7]
    exact law_321 h0 hj hL
  rw [if_neg c7]
  by_cases c8 : (scF σ (nI (4 * j)).toNatClampNeg &&& 31).toInt = 8
  · rw [if_pos c8]
    exact law_354 h0 hj hL
  rw [if_neg c8]
  by_cases c9 : (scF σ (nI (4 * j)).toNatClampNeg &&& 31).toInt = 9
  · rw [if_pos c9]
    exact law_387 h0 hj hL
  rw [if_neg c9]
  by_cases c10 : (scF σ (nI (4 * j)).toNatClampNeg &&& 31).toInt = 10
  · rw [if_pos c10]
    exact law_430 h0 hj hL
  rw [if_neg c10]
  by_cases c11 : (scF σ (nI (4 * j)).toNatClampNeg &&& 31).toInt = 11
  · rw [if_pos c11]
    exact law_463 h0 hj hL
  rw [if_neg c11]
  by_cases c12 : (scF σ (nI (4 * j)).toNatClampNeg &&& 31).toInt = 12
  · rw [if_pos c12]
    exact law_522 h0 hj hL
  rw [if_neg c12]
  by_cases c13 : (scF σ (nI (4 * j)).toNatClampNeg &&& 31).toInt = 13
  · rw [if_pos c13]
    exact law_555 h0 hj hL
  rw [if_neg c13]
  by_cases c14 : (scF σ (nI (4 * j)).toNatClampNeg &&& 31).toInt = 14
  · rw [if_pos c14]
    exact law_568 h0 hj hL
  rw [if_neg c14]
  by_cases c15 : (scF σ (nI (4 * j)).toNatClampNeg &&& 31).toInt = 15
  · rw [if_pos c15]
    exact law_581 h0 hj hL
  rw [if_neg c15]
  by_cases c16 : (scF σ (nI (4 * j)).toNatClampNeg &&& 31).toInt = 16
  · rw [if_pos c16]
    exact law_604 h0 hj hL
  rw [if_neg c16]
  by_cases c17 : (scF σ (nI (4 * j)).toNatClampNeg &&& 31).toInt = 17
  · rw [if_pos c17]
    exact law_647 h0 hj hL
  rw [if_neg c17]
  by_cases c18 : (scF σ (nI (4 * j)).toNatClampNeg &&& 31).toInt = 18
  · rw [if_pos c18]
    exact law_680 h0 hj hL
  rw [if_neg c18]
  by_cases c19 : (scF σ (nI (4 * j)).toNatClampNeg &&& 31).toInt = 19
  · rw [if_pos c19]
    exact law_723 h0 hj hL
  rw [if_neg c19]
  by_cases c20 : (scF σ (nI (4 * j)).toNatClampNeg &&& 31).toInt = 20
  · rw [if_pos c20]
    exact law_756 h0 hj hL
  rw [if_neg c20]
  by_cases c21 : (scF σ (nI (4 * j)).toNatClampNeg &&& 31).toInt = 21
  · rw [if_pos c21]
    exact law_799 h0 hj hL
  rw [if_neg c21]
  by_cases c22 : (scF σ (nI (4 * j)).toNatClampNeg &&& 31).toInt = 22
  · rw [if_pos c22]
    exact law_812 h0 hj hL
  rw [if_neg c22]
  by_cases c23 : (scF σ (nI (4 * j)).toNatClampNeg &&& 31).toInt = 23
  · rw [if_pos c23]
    exact law_855 h0 hj hL
  rw [if_neg c23]
  by_cases c24 : (scF σ (nI (4 * j)).toNatClampNeg &&& 31).toInt = 24
  · rw [if_pos c24]
    exact law_898 h0 hj hL
  rw [if_neg c24]
  by_cases c25 : (scF σ (nI (4 * j)).toNatClampNeg &&& 31).toInt = 25
  · rw [if_pos c25]
    exact law_911 h0 hj hL
  rw [if_neg c25]
  by_cases c26 : (scF σ (nI (4 * j)).toNatClampNeg &&& 31).toInt = 26
  · rw [if_pos c26]
    exact law_924 h0 hj hL
  rw [if_neg c26]
  by_cases c27 : (scF σ (nI (4 * j)).toNatClampNeg &&& 31).toInt = 27
  · rw [if_pos c27]
    exact law_947 h0 hj hL
  rw [if_neg c27]
  exact ⟨σ, rfl, X, hc, hm, hx, by omega, hw, hl, hf⟩
theorem law_loop (hL : L ≤ 256) : ∀ m j, L ≤ 4 * j + 4 * m → j ≤ 64 → ∀ σ : St, LI L f j σ → ∃ σ', exec (d + 13) 225 18 [vR 64 0, vR 6 0, vR 7 0, vI (nI (4 * j))] [] σ = some (some (vI 1), σ') := by
  have out : ∀ j (σ : St), ¬ 4 * j + 4 ≤ L → j ≤ 64 → LI L f j σ → exec (d + 13) 225 18 [vR 64 0, vR 6 0, vR 7 0, vI (nI (4 * j))] [] σ = some (some (vI 1), σ) := fun j σ hj hj64 h => by
    obtain ⟨X, hc, hm, hx, hr, hw, hl, hf⟩ := h
    have lt : nI (scL σ) - 4 < nI (4 * j) := by
      rw [hl, show (4 : Int32) = nI 4 from rfl]
      by_cases c : 4 ≤ L
      · rw [pk_sub c]; exact ltn (by omega) (by omega)
      · exact Int32.lt_of_lt_of_le (pk_sneg (by omega) (by omega)) (nI_pos' (by omega))
    rw [s225_18, if_pos lt, s225_967]
  intro m
  induction m with
  | zero =>
    intro j hm hj64 σ h
    exact ⟨σ, out j σ (by omega) hj64 h⟩
  | succ m ih =>
    intro j hm hj64 σ h
    by_cases hj : 4 * j + 4 ≤ L
    · obtain ⟨σ1, e1, h1⟩ := law_sw (d := d) h hj hL
      obtain ⟨σ2, e2⟩ := ih (j + 1) (by omega) (by omega) σ1 h1
      refine ⟨σ2, ?_⟩
      have nl : ¬ nI (scL σ) - 4 < nI (4 * j) := by
        obtain ⟨X, hc, hm, hx, hr, hw, hl, hf⟩ := h
        rw [hl, show (4 : Int32) = nI 4 from rfl, pk_sub (by omega), ltN (by omega) (by omega)]
        omega
      have a4 : nI (4 * j) + 4 = nI (4 * (j + 1)) := by rw [show (4 : Int32) = nI 4 from rfl, addN]; rfl
      rw [s225_18, if_neg nl, e1, s225_961, a4]
      exact e2
    · exact ⟨σ, out j σ hj hj64 h⟩
end LW

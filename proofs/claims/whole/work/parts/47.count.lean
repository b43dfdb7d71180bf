/-! What is counted. -/
theorem sm_add {f : Nat → Int32} {a : Nat} : ∀ b, sm f (a + b) = sm f a + sm (fun j => f (a + j)) b
  | 0 => (Int32.add_zero _).symm
  | b + 1 => by rw [← Nat.add_assoc, sm, sm, sm_add b, Int32.add_assoc]
theorem sm_six {f : Nat → Int32} : ∀ m, sm f (6 * m) = sm (fun a => sm (fun b => f (6 * a + b)) 6) m
  | 0 => rfl
  | m + 1 => by
    show sm f (6 * m + 6) = sm (fun a => sm (fun b => f (6 * a + b)) 6) m + sm (fun b => f (6 * m + b)) 6
    rw [sm_add, sm_six m]
theorem sm_cut {f : Nat → Int32} {n : Nat} : ∀ m, n ≤ m → (∀ a, n ≤ a → a < m → f a = 0) → sm f m = sm f n
  | 0, h, _ => by rw [show n = 0 by omega]
  | m + 1, h, hz => by
    by_cases e : n = m + 1
    · rw [e]
    · rw [sm, hz m (by omega) (by omega), Int32.add_zero, sm_cut m (by omega) (fun a h1 h2 => hz a h1 (by omega))]
theorem sm_0 : ∀ m, sm (fun _ => 0) m = 0
  | 0 => rfl
  | m + 1 => by rw [sm, sm_0 m]; rfl
theorem sm_ZA {n : Nat} {A : Nat → Int32} (h6 : n ≤ 6) (hz : ZA n A) : sm A 36 = sm (fun a => sm (fun b => A (6 * a + b)) n) n := by
  rw [show (36 : Nat) = 6 * 6 from rfl, sm_six 6, sm_cut (f := fun a => sm (fun b => A (6 * a + b)) 6) 6 h6 (fun a h1 h2 => (sm_ext (fun b hb => hz _ (by omega) (by omega))).trans (sm_0 6))]
  exact sm_ext (fun a ha => sm_cut (f := fun b => A (6 * a + b)) 6 h6 (fun b h1 h2 => hz _ (by omega) (by omega)))
def nsm (f : Nat → Nat) : Nat → Nat
  | 0 => 0
  | b + 1 => nsm f b + f b
theorem sm_nI {f : Nat → Int32} {w : Nat → Nat} : ∀ {k : Nat}, (∀ j, j < k → f j = nI (w j)) → sm f k = nI (nsm w k)
  | 0, _ => rfl
  | k + 1, h => by rw [sm, nsm, h k (by omega), sm_nI (fun j hj => h j (by omega)), addN]
theorem nsm_le {w : Nat → Nat} : ∀ {k : Nat}, (∀ j, j < k → w j ≤ 1) → nsm w k ≤ k
  | 0, _ => Nat.le_refl _
  | k + 1, h => by
    have := nsm_le (w := w) (k := k) (fun j hj => h j (by omega))
    have := h k (by omega)
    rw [nsm]
    omega
theorem nsm_half {w : Nat → Nat} (hs : ∀ a b, a < 6 → b < 6 → w (6 * a + b) = w (6 * b + a)) (hd : ∀ a, a < 6 → w (7 * a) = 0) : nsm w 36 = 2 * nsm (fun p => w (6 * lop p + hip p)) 15 := by
  have e1 : nsm (fun p => w (6 * lop p + hip p)) 15 = 0 + w 1 + w 2 + w 3 + w 4 + w 5 + w 8 + w 9 + w 10 + w 11 + w 15 + w 16 + w 17 + w 22 + w 23 + w 29 := rfl
  have e2 : nsm w 36 = 0 + w 0 + w 1 + w 2 + w 3 + w 4 + w 5 + w 6 + w 7 + w 8 + w 9 + w 10 + w 11 + w 12 + w 13 + w 14 + w 15 + w 16 + w 17 + w 18 + w 19 + w 20 + w 21 + w 22 + w 23 + w 24 + w 25 + w 26 + w 27 + w 28 + w 29 + w 30 + w 31 + w 32 + w 33 + w 34 + w 35 := rfl
  have d0 : w 0 = 0 := hd 0 (by omega)
  have d1 : w 7 = 0 := hd 1 (by omega)
  have d2 : w 14 = 0 := hd 2 (by omega)
  have d3 : w 21 = 0 := hd 3 (by omega)
  have d4 : w 28 = 0 := hd 4 (by omega)
  have d5 : w 35 = 0 := hd 5 (by omega)
  have s01 : w 1 = w 6 := hs 0 1 (by omega) (by omega)
  have s02 : w 2 = w 12 := hs 0 2 (by omega) (by omega)
  have s03 : w 3 = w 18 := hs 0 3 (by omega) (by omega)
  have s04 : w 4 = w 24 := hs 0 4 (by omega) (by omega)
  have s05 : w 5 = w 30 := hs 0 5 (by omega) (by omega)
  have s12 : w 8 = w 13 := hs 1 2 (by omega) (by omega)
  have s13 : w 9 = w 19 := hs 1 3 (by omega) (by omega)
  have s14 : w 10 = w 25 := hs 1 4 (by omega) (by omega)
  have s15 : w 11 = w 31 := hs 1 5 (by omega) (by omega)
  have s23 : w 15 = w 20 := hs 2 3 (by omega) (by omega)
  have s24 : w 16 = w 26 := hs 2 4 (by omega) (by omega)
  have s25 : w 17 = w 32 := hs 2 5 (by omega) (by omega)
  have s34 : w 22 = w 27 := hs 3 4 (by omega) (by omega)
  have s35 : w 23 = w 33 := hs 3 5 (by omega) (by omega)
  have s45 : w 29 = w 34 := hs 4 5 (by omega) (by omega)
  rw [e1, e2]
  omega
theorem sm_half {W : Nat → Int32} (h1 : W01 W) (hs : WS W) (hd : ∀ a, a < 6 → W (7 * a) = 0) : sm W 36 / 2 = sm (fun p => W (6 * lop p + hip p)) 15 := by
  have hw : ∀ j, j < 36 → W j = nI (W j).toNatClampNeg ∧ (W j).toNatClampNeg ≤ 1 := fun j hj => by
    rcases h1 j hj with e | e <;> rw [e] <;> decide
  have e1 := sm_nI (f := W) (w := fun j => (W j).toNatClampNeg) (k := 36) (fun j hj => (hw j hj).1)
  have e2 := sm_nI (f := fun p => W (6 * lop p + hip p)) (w := fun p => (W (6 * lop p + hip p)).toNatClampNeg) (k := 15) (fun p hp => (hw _ (by have := lop6 p hp; omega)).1)
  have e3 := nsm_half (w := fun j => (W j).toNatClampNeg) (fun a b ha hb => by show (W _).toNatClampNeg = (W _).toNatClampNeg; rw [hs a b ha hb]) (fun a ha => by show (W _).toNatClampNeg = 0; rw [hd a ha]; rfl)
  have e3' : nsm (fun j => (W j).toNatClampNeg) 36 = 2 * nsm (fun p => (W (6 * lop p + hip p)).toNatClampNeg) 15 := e3
  have hle := nsm_le (w := fun p => (W (6 * lop p + hip p)).toNatClampNeg) (k := 15) (fun p hp => (hw _ (by have := lop6 p hp; omega)).2)
  rw [e1, e2, e3', show (2 : Int32) = nI 2 from rfl, pk_div (by omega) (by omega) (by omega), Nat.mul_div_cancel_left _ (by omega)]
section MC
variable {d : Nat} {σ : St} {n : Nat} {F : Nat → Option Nat}
theorem m_angersAbove : call d 204 [vR 7 0] σ = some (some (vI (nI (cn (fun j => decide (0 < ar σ 35 0 j)) 36))), σ) := by
  have key : ∀ f j, j + f = 36 → exec d 204 4 [vR 7 0, vI (nI (cn (fun j => decide (0 < ar σ 35 0 j)) j)), vI (nI j)] [] σ = some (some (vI (nI (cn (fun j => decide (0 < ar σ 35 0 j)) 36))), σ) := by
    intro f
    induction f with
    | zero =>
      intro j hj
      have e : j = 36 := by omega
      subst e
      rw [s204_4, show (36 : Int32) = nI 36 from rfl, if_neg nlt, s204_33]
    | succ f ih =>
      intro j hj
      have lt36 : nI j < 36 := by rw [show (36 : Int32) = nI 36 from rfl]; exact ltn (by omega) (by omega)
      have iv : ¬ oob (nI j) 36 = true := by rw [oob_nI (by omega) (by omega)]; exact Bool.false_ne_true
      rw [s204_4, if_pos lt36, s204_10, if_neg iv, clN (by omega), s204_17]
      have ih' := ih (j + 1) (by omega)
      rw [cn] at ih'
      by_cases c : 0 < ar σ 35 0 j
      · rw [if_pos (decide_eq_true c)] at ih'
        rw [if_pos c, s204_20, s204_25, add1N, add1N]
        exact ih'
      · rw [if_neg (by rw [decide_eq_true_eq]; exact c)] at ih'
        rw [if_neg c, s204_24, s204_25, add1N, Int32.add_zero]
        exact ih'
  rw [s204_e, s204_0]
  exact key 36 0 rfl
theorem m_sumOf {t : Nat} (ht : t < 60) (hl : lenT t = 36) : call d 205 [vR 7 0, vR t 0] σ = some (some (vI (sm (ar σ t 0) 36)), σ) := by
  have g : 0 < lenT t := by omega
  have key : ∀ f j, j + f = 36 → exec d 205 4 [vR 7 0, vR t 0, vI (sm (ar σ t 0) j), vI (nI j)] [] σ = some (some (vI (sm (ar σ t 0) 36)), σ) := by
    intro f
    induction f with
    | zero =>
      intro j hj
      have e : j = 36 := by omega
      subst e
      rw [s205_4 ht g, hl, if_neg nlt, s205_22]
    | succ f ih =>
      intro j hj
      have iv : ¬ oob (nI j) (lenT t) = true := by rw [hl, oob_nI (by omega) (by omega)]; exact Bool.false_ne_true
      rw [s205_4 ht g, hl, if_pos (ltn (show j < 36 by omega) (by omega)), s205_10 ht, if_neg iv, clN (by omega), s205_14, add1N]
      exact ih (j + 1) (by omega)
  rw [s205_e, s205_0]
  exact key 36 0 rfl
theorem m_sumHouses {t : Nat} (ht : t < 60) (hl : lenT t = 6) (hn : ar σ 7 0 3 = nI n) (h6 : n ≤ 6) : call d 208 [vR 7 0, vR t 0] σ = some (some (vI (sm (ar σ t 0) n)), σ) := by
  have key : ∀ f j, j + f = n → exec d 208 4 [vR 7 0, vR t 0, vI (sm (ar σ t 0) j), vI (nI j)] [] σ = some (some (vI (sm (ar σ t 0) n)), σ) := by
    intro f
    induction f with
    | zero =>
      intro j hj
      have e : j = n := by omega
      rw [e, s208_4, hn, if_neg nlt, s208_24]
    | succ f ih =>
      intro j hj
      have iv : ¬ oob (nI j) (lenT t) = true := by rw [hl, oob_nI (by omega) (by omega)]; exact Bool.false_ne_true
      rw [s208_4, hn, if_pos (ltn (show j < n by omega) (by omega)), s208_12 ht, if_neg iv, clN (by omega), s208_16, add1N]
      exact ih (j + 1) (by omega)
  rw [s208_e, s208_0]
  exact key n 0 (by omega)
theorem m_viewsNow (hn : ar σ 7 0 3 = nI n) (h6 : n ≤ 6) (hF : Fc σ n F) (hv : ∀ a b, F a = some b → b < n) : call d 206 [vR 7 0] σ = some (some (vI (sm (fun a => if F a = none then ar σ 32 0 a else 0) n)), σ) := by
  have key : ∀ f a, a + f = n → exec d 206 4 [vR 7 0, vI (sm (fun a => if F a = none then ar σ 32 0 a else 0) a), vI (nI a)] [] σ = some (some (vI (sm (fun a => if F a = none then ar σ 32 0 a else 0) n)), σ) := by
    intro f
    induction f with
    | zero =>
      intro a ha
      have e : a = n := by omega
      rw [e, s206_4, hn, if_neg nlt, s206_41]
    | succ f ih =>
      intro a ha
      have iv : ¬ oob (nI a) 6 = true := by rw [oob_nI (by omega) (by omega)]; exact Bool.false_ne_true
      have em := en_m1 (o := F a) (fun b hb => by have := hv a b hb; omega)
      have ih' := ih (a + 1) (by omega)
      rw [sm] at ih'
      rw [s206_4, hn, if_pos (ltn (show a < n by omega) (by omega)), s206_12, if_neg iv, clN (by omega), hF a (by omega), s206_19]
      by_cases c : F a = none
      · rw [if_pos c] at ih'
        rw [if_pos (em.mpr c), s206_23, if_neg iv, clN (by omega), s206_29, s206_33, add1N]
        exact ih'
      · rw [if_neg c] at ih'
        rw [if_neg (fun z => c (em.mp z)), s206_32, s206_33, add1N]
        exact ih'
  rw [s206_e, s206_0]
  exact key n 0 (by omega)
theorem m_priestsNow (hn : ar σ 7 0 3 = nI n) (h6 : n ≤ 6) (hF : Fc σ n F) (hv : ∀ a b, F a = some b → b < n) : call (d + 1) 207 [vR 7 0] σ = some (some (vI (nI (cn (fun a => decide (fbit F a n = 0)) n))), σ) := by
  have key : ∀ f a, a + f = n → exec (d + 1) 207 4 [vR 7 0, vI (nI (cn (fun a => decide (fbit F a n = 0)) a)), vI (nI a)] [] σ = some (some (vI (nI (cn (fun a => decide (fbit F a n = 0)) n))), σ) := by
    intro f
    induction f with
    | zero =>
      intro a ha
      have e : a = n := by omega
      rw [e, s207_4, hn, if_neg nlt, s207_34]
    | succ f ih =>
      intro a ha
      have e1 := m_facedBy (d := d) hn h6 hF hv (show a < 6 by omega)
      have hb := fbit_lt (F := F) (a := a) h6
      have ez : (nI (fbit F a n) = 0) = (fbit F a n = 0) := by rw [n0]; exact eqN (by omega) (by omega)
      have ih' := ih (a + 1) (by omega)
      rw [cn] at ih'
      rw [s207_4, hn, if_pos (ltn (show a < n by omega) (by omega))]
      by_cases c : fbit F a n = 0
      · rw [if_pos (decide_eq_true c)] at ih'
        simp only [s207_12, s207_18, s207_21, s207_26, e1, ez.trans (eq_true c), add1N, Option.bind_some, Option.toList_some, Option.toList_none, List.cons_append, List.nil_append, true_or, or_true, if_true, if_false, i10, i01, Bool.false_eq_true]
        exact ih'
      · rw [if_neg (by rw [decide_eq_true_eq]; exact c)] at ih'
        simp only [s207_12, s207_18, s207_25, s207_26, e1, ez.trans (eq_false c), add1N, Int32.add_zero, Option.bind_some, Option.toList_some, Option.toList_none, List.cons_append, List.nil_append, true_or, or_true, if_true, if_false, i10, i01, Bool.false_eq_true]
        exact ih'
  rw [s207_e, s207_0]
  exact key n 0 (by omega)
end MC
/-- what is counted -/
noncomputable def cnt (X : Ab) (w : Nat) : Int32 := match w with
  | 0 => nI (qn (xs X))
  | 1 => nI (cn (fun j => decide (0 < qA (xs X) j)) 36)
  | 2 => sm (fun a => sm (fun b => qA (xs X) (6 * a + b)) (qn (xs X))) (qn (xs X))
  | 3 => nI (cn (fun a => decide (qF (xs X) a = none)) (qn (xs X)))
  | 4 => sm (fun a => if qF (xs X) a = none then qV (xs X) a else 0) (qn (xs X))
  | 5 => nI (cn (fun a => star (qF (xs X)) a && lts (qF (xs X) a) a) (qn (xs X)))
  | 6 => nI (crs (qF (xs X)) (qn (xs X)) (qn (xs X))).1
  | 7 => nI (cn (fun a => decide (fbit (qF (xs X)) a (qn (xs X)) = 0)) (qn (xs X)))
  | 8 => sm (fun p => qW (xs X) (6 * lop p + hip p)) 15
  | 9 => nI (qm (xs X))
  | 10 => qt (xs X)
  | 11 => qq (xs X)
  | 12 => qp (xs X)
  | 13 => sm (qT (xs X)) (qn (xs X))
  | 14 => sm (qC (xs X)) (qn (xs X))
  | 15 => nI (gl (xg X))
  | 16 => nI (xL X)
  | 17 => nI (xr X)
  | 18 => nI (xc X)
  | _ => nI (xa X)
section CT
variable {d : Nat} {σ : St} {X : Ab}
theorem c_countW {w : Nat} (h6 : qn (xs X) ≤ 6) (hc : CAt σ X) (hw : w < 20) : call (d + 3) 121 [vR 6 0, vI (nI w)] σ = some (some (vI (cnt X w)), σ) := by
  have S := hc.1
  have hn := S.1.1
  have hF : ∀ a, a < qn (xs X) → ar σ 13 0 a = en (qF (xs X) a) := S.1.2.2.2.2
  have hv : ∀ a b, qF (xs X) a = some b → b < qn (xs X) := fun a b h => qF_lt h
  rcases (show w = 0 ∨ w = 1 ∨ w = 2 ∨ w = 3 ∨ w = 4 ∨ w = 5 ∨ w = 6 ∨ w = 7 ∨ w = 8 ∨ w = 9 ∨ w = 10 ∨ w = 11 ∨ w = 12 ∨ w = 13 ∨ w = 14 ∨ w = 15 ∨ w = 16 ∨ w = 17 ∨ w = 18 ∨ w = 19 by omega) with rfl | rfl | rfl | rfl | rfl | rfl | rfl | rfl | rfl | rfl | rfl | rfl | rfl | rfl | rfl | rfl | rfl | rfl | rfl | rfl
  · have e := c_size (d := d + 2) (σ := σ) (q := 0)
    rw [hn] at e
    simp only [s121_e, w121_0, s121_96, s121_103, e, Option.bind_some, Option.toList_some, Option.toList_none, List.cons_append, List.nil_append, true_or, or_true, if_true, if_false, i10, i01, Bool.false_eq_true]
    rfl
  · have e := c_countAngers (d := d + 2) (σ := σ) (q := 0)
    rw [S.1.2.2.2.1] at e
    simp only [s121_e, w121_1, s121_104, s121_111, e, Option.bind_some, Option.toList_some, Option.toList_none, List.cons_append, List.nil_append, true_or, or_true, if_true, if_false, i10, i01, Bool.false_eq_true]
    rfl
  · have e := c_sumAngers (d := d) hn h6
    rw [S.1.2.2.2.1] at e
    simp only [s121_e, w121_2, s121_112, s121_119, e, Option.bind_some, Option.toList_some, Option.toList_none, List.cons_append, List.nil_append, true_or, or_true, if_true, if_false, i10, i01, Bool.false_eq_true]
    rfl
  · have e := c_countAtRiver (d := d + 2) hn h6 hF hv
    simp only [s121_e, w121_3, s121_120, s121_127, e, Option.bind_some, Option.toList_some, Option.toList_none, List.cons_append, List.nil_append, true_or, or_true, if_true, if_false, i10, i01, Bool.false_eq_true]
    rfl
  · have e := c_worthOfViews (d := d + 2) hn h6 hF hv
    rw [S.2.1] at e
    simp only [s121_e, w121_4, s121_128, s121_135, e, Option.bind_some, Option.toList_some, Option.toList_none, List.cons_append, List.nil_append, true_or, or_true, if_true, if_false, i10, i01, Bool.false_eq_true]
    rfl
  · have e := c_countStares (d := d) hn h6 hF hv
    simp only [s121_e, w121_5, s121_136, s121_143, e, Option.bind_some, Option.toList_some, Option.toList_none, List.cons_append, List.nil_append, true_or, or_true, if_true, if_false, i10, i01, Bool.false_eq_true]
    rfl
  · have e := c_countRings (d := d) hn h6 hF hv
    simp only [s121_e, w121_6, s121_144, s121_151, e, Option.bind_some, Option.toList_some, Option.toList_none, List.cons_append, List.nil_append, true_or, or_true, if_true, if_false, i10, i01, Bool.false_eq_true]
    rfl
  · have e := c_countPriests (d := d + 1) hn h6 hF hv
    simp only [s121_e, w121_7, s121_152, s121_159, e, Option.bind_some, Option.toList_some, Option.toList_none, List.cons_append, List.nil_append, true_or, or_true, if_true, if_false, i10, i01, Bool.false_eq_true]
    rfl
  · have e := c_countWalls (d := d + 1) (σ := σ) (q := 0)
    rw [S.1.2.2.1] at e
    simp only [s121_e, w121_8, s121_160, s121_167, e, Option.bind_some, Option.toList_some, Option.toList_none, List.cons_append, List.nil_append, true_or, or_true, if_true, if_false, i10, i01, Bool.false_eq_true]
    rfl
  · have e : ar σ 5 0 8 = nI (qm (xs X)) := S.2.2.2.2.1
    rw [s121_e, w121_9, s121_168, e]
    rfl
  · have e : ar σ 5 0 9 = qt (xs X) := S.2.2.2.2.2.1
    rw [s121_e, w121_10, s121_176, e]
    rfl
  · have e : ar σ 5 0 10 = qq (xs X) := S.2.2.2.2.2.2.1
    rw [s121_e, w121_11, s121_184, e]
    rfl
  · have e : ar σ 5 0 11 = qp (xs X) := S.2.2.2.2.2.2.2
    rw [s121_e, w121_12, s121_192, e]
    rfl
  · have e := c_sumTorn (d := d + 2) hn h6
    rw [S.2.2.1] at e
    simp only [s121_e, w121_13, s121_200, s121_207, e, Option.bind_some, Option.toList_some, Option.toList_none, List.cons_append, List.nil_append, true_or, or_true, if_true, if_false, i10, i01, Bool.false_eq_true]
    rfl
  · have e := c_sumCosts (d := d + 2) hn h6
    rw [S.2.2.2.1] at e
    simp only [s121_e, w121_14, s121_208, s121_215, e, Option.bind_some, Option.toList_some, Option.toList_none, List.cons_append, List.nil_append, true_or, or_true, if_true, if_false, i10, i01, Bool.false_eq_true]
    rfl
  · have e := c_seenSize (d := d + 2) hc.2.1
    simp only [s121_e, w121_15, s121_216, s121_223, e, Option.bind_some, Option.toList_some, Option.toList_none, List.cons_append, List.nil_append, true_or, or_true, if_true, if_false, i10, i01, Bool.false_eq_true]
    rfl
  · have e := c_pageSize (d := d + 2) hc.2.2.1
    simp only [s121_e, w121_16, s121_224, s121_231, e, Option.bind_some, Option.toList_some, Option.toList_none, List.cons_append, List.nil_append, true_or, or_true, if_true, if_false, i10, i01, Bool.false_eq_true]
    rfl
  · have e : ar σ 6 0 9 = nI (xr X) := hc.2.2.2.2.1
    rw [s121_e, w121_17, s121_232, e]
    rfl
  · have e : ar σ 6 0 10 = nI (xc X) := hc.2.2.2.2.2.1
    rw [s121_e, w121_18, s121_237, e]
    rfl
  · have e : ar σ 6 0 11 = nI (xa X) := hc.2.2.2.2.2.2
    rw [s121_e, w121_19, s121_242, e]
    rfl
theorem m_countOf {w : Nat} (hx : WfX X) (m : MAt σ X) (hw : w < 20) : ∃ σ', call (d + 3) 209 [vR 7 0, vI (nI w)] σ = some (some (vI (cnt X w)), σ') ∧ Ag QM σ σ' := by
  have h6 := hx.1.2.1
  obtain ⟨σ1, e1, F1, g1⟩ := m_layFaces' (d := d + 1) (Or.inl rfl) h6 hx.1.2.2.1 m.1 m.2.1
  have m1 := m.qm g1.fq
  have hn := m1.1.1
  have hF : Fc σ1 (qn (xs X)) (qF (xs X)) := F1
  have hv : ∀ a b, qF (xs X) a = some b → b < qn (xs X) := fun a b h => qF_lt h
  refine ⟨σ1, ?_, g1.fq⟩
  rcases (show w = 0 ∨ w = 1 ∨ w = 2 ∨ w = 3 ∨ w = 4 ∨ w = 5 ∨ w = 6 ∨ w = 7 ∨ w = 8 ∨ w = 9 ∨ w = 10 ∨ w = 11 ∨ w = 12 ∨ w = 13 ∨ w = 14 ∨ w = 15 ∨ w = 16 ∨ w = 17 ∨ w = 18 ∨ w = 19 by omega) with rfl | rfl | rfl | rfl | rfl | rfl | rfl | rfl | rfl | rfl | rfl | rfl | rfl | rfl | rfl | rfl | rfl | rfl | rfl | rfl
  · simp only [s209_e, s209_0, e1, w209_0, s209_64, hn, Option.bind_some, Option.toList_some, Option.toList_none, List.cons_append, List.nil_append, true_or, or_true, if_true, if_false, i10, i01, Bool.false_eq_true]
    rfl
  · have e := m_angersAbove (d := d + 2) (σ := σ1)
    rw [cn_ext (p' := fun j => decide (0 < qA (xs X) j)) (fun j hj => by show decide _ = decide _; rw [m1.2.1 j hj])] at e
    simp only [s209_e, s209_0, e1, w209_1, s209_69, s209_73, e, Option.bind_some, Option.toList_some, Option.toList_none, List.cons_append, List.nil_append, true_or, or_true, if_true, if_false, i10, i01, Bool.false_eq_true]
    rfl
  · have e := m_sumOf (d := d + 2) (σ := σ1) (t := 35) (by decide) rfl
    rw [sm_ext (f' := qA (xs X)) (fun j hj => m1.2.1 j hj), sm_ZA h6 hx.1.2.2.2.2.2.1] at e
    simp only [s209_e, s209_0, e1, w209_2, s209_74, s209_82, e, Option.bind_some, Option.toList_some, Option.toList_none, List.cons_append, List.nil_append, true_or, or_true, if_true, if_false, i10, i01, Bool.false_eq_true]
    rfl
  · have e := m_riverMany (d := d + 2) hn h6 hF hv
    simp only [s209_e, s209_0, e1, w209_3, s209_83, s209_87, e, Option.bind_some, Option.toList_some, Option.toList_none, List.cons_append, List.nil_append, true_or, or_true, if_true, if_false, i10, i01, Bool.false_eq_true]
    rfl
  · have e := m_viewsNow (d := d + 2) hn h6 hF hv
    rw [sm_ext (f' := fun a => if qF (xs X) a = none then qV (xs X) a else 0) (fun a ha => by show (if _ then _ else _) = (if _ then _ else _); rw [m1.2.2.2.2.1.1 a ha])] at e
    simp only [s209_e, s209_0, e1, w209_4, s209_88, s209_92, e, Option.bind_some, Option.toList_some, Option.toList_none, List.cons_append, List.nil_append, true_or, or_true, if_true, if_false, i10, i01, Bool.false_eq_true]
    rfl
  · have e := m_staresMany (d := d + 1) hn h6 hF hv
    simp only [s209_e, s209_0, e1, w209_5, s209_93, s209_97, e, Option.bind_some, Option.toList_some, Option.toList_none, List.cons_append, List.nil_append, true_or, or_true, if_true, if_false, i10, i01, Bool.false_eq_true]
    rfl
  · have e := m_ringsMany (d := d) hn h6 hF hv
    simp only [s209_e, s209_0, e1, w209_6, s209_98, s209_102, e, Option.bind_some, Option.toList_some, Option.toList_none, List.cons_append, List.nil_append, true_or, or_true, if_true, if_false, i10, i01, Bool.false_eq_true]
    rfl
  · have e := m_priestsNow (d := d + 1) hn h6 hF hv
    simp only [s209_e, s209_0, e1, w209_7, s209_103, s209_107, e, Option.bind_some, Option.toList_some, Option.toList_none, List.cons_append, List.nil_append, true_or, or_true, if_true, if_false, i10, i01, Bool.false_eq_true]
    rfl
  · have e := m_sumOf (d := d + 2) (σ := σ1) (t := 36) (by decide) rfl
    rw [sm_ext (f' := qW (xs X)) (fun j hj => m1.1.2.2 j hj)] at e
    simp only [s209_e, s209_0, e1, w209_8, s209_108, s209_116, e, sm_half hx.1.2.2.1 hx.1.2.2.2.1 hx.1.2.2.2.2.1, Option.bind_some, Option.toList_some, Option.toList_none, List.cons_append, List.nil_append, true_or, or_true, if_true, if_false, i10, i01, Bool.false_eq_true]
    rfl
  · simp only [s209_e, s209_0, e1, w209_9, s209_119, show ar σ1 7 0 4 = nI (qm (xs X)) from m1.2.2.2.2.1.2.2.2.1, Option.bind_some, Option.toList_some, Option.toList_none, List.cons_append, List.nil_append, true_or, or_true, if_true, if_false, i10, i01, Bool.false_eq_true]
    rfl
  · simp only [s209_e, s209_0, e1, w209_x (x := nI 10) (fun w h0 hw z => by have z' := (eqN (show 10 ≤ 100000 by omega) (show w ≤ 100000 by omega)).mp z; omega), s209_124, s209_129, s210_e, w210_10, s210_56, show ar σ1 7 0 5 = qt (xs X) from m1.2.2.2.2.1.2.2.2.2.1, Option.bind_some, Option.toList_some, Option.toList_none, List.cons_append, List.nil_append, true_or, or_true, if_true, if_false, i10, i01, Bool.false_eq_true]
    rfl
  · simp only [s209_e, s209_0, e1, w209_x (x := nI 11) (fun w h0 hw z => by have z' := (eqN (show 11 ≤ 100000 by omega) (show w ≤ 100000 by omega)).mp z; omega), s209_124, s209_129, s210_e, w210_11, s210_61, show ar σ1 7 0 6 = qq (xs X) from m1.2.2.2.2.1.2.2.2.2.2.1, Option.bind_some, Option.toList_some, Option.toList_none, List.cons_append, List.nil_append, true_or, or_true, if_true, if_false, i10, i01, Bool.false_eq_true]
    rfl
  · simp only [s209_e, s209_0, e1, w209_x (x := nI 12) (fun w h0 hw z => by have z' := (eqN (show 12 ≤ 100000 by omega) (show w ≤ 100000 by omega)).mp z; omega), s209_124, s209_129, s210_e, w210_12, s210_66, show ar σ1 7 0 7 = qp (xs X) from m1.2.2.2.2.1.2.2.2.2.2.2, Option.bind_some, Option.toList_some, Option.toList_none, List.cons_append, List.nil_append, true_or, or_true, if_true, if_false, i10, i01, Bool.false_eq_true]
    rfl
  · have e := m_sumHouses (d := d + 1) (σ := σ1) (t := 33) (by decide) rfl hn h6
    rw [sm_ext (f' := qT (xs X)) (fun a ha => m1.2.2.2.2.1.2.1 a ha)] at e
    simp only [s209_e, s209_0, e1, w209_x (x := nI 13) (fun w h0 hw z => by have z' := (eqN (show 13 ≤ 100000 by omega) (show w ≤ 100000 by omega)).mp z; omega), s209_124, s209_129, s210_e, w210_13, s210_71, s210_79, e, Option.bind_some, Option.toList_some, Option.toList_none, List.cons_append, List.nil_append, true_or, or_true, if_true, if_false, i10, i01, Bool.false_eq_true]
    rfl
  · have e := m_sumHouses (d := d + 1) (σ := σ1) (t := 34) (by decide) rfl hn h6
    rw [sm_ext (f' := qC (xs X)) (fun a ha => m1.2.2.2.2.1.2.2.1 a ha)] at e
    simp only [s209_e, s209_0, e1, w209_x (x := nI 14) (fun w h0 hw z => by have z' := (eqN (show 14 ≤ 100000 by omega) (show w ≤ 100000 by omega)).mp z; omega), s209_124, s209_129, s210_e, w210_14, s210_80, s210_88, e, Option.bind_some, Option.toList_some, Option.toList_none, List.cons_append, List.nil_append, true_or, or_true, if_true, if_false, i10, i01, Bool.false_eq_true]
    rfl
  · simp only [s209_e, s209_0, e1, w209_x (x := nI 15) (fun w h0 hw z => by have z' := (eqN (show 15 ≤ 100000 by omega) (show w ≤ 100000 by omega)).mp z; omega), s209_124, s209_129, s210_e, w210_15, s210_89, show ar σ1 7 0 24 = nI (gl (xg X)) from m1.2.2.1.1, Option.bind_some, Option.toList_some, Option.toList_none, List.cons_append, List.nil_append, true_or, or_true, if_true, if_false, i10, i01, Bool.false_eq_true]
    rfl
  · simp only [s209_e, s209_0, e1, w209_x (x := nI 16) (fun w h0 hw z => by have z' := (eqN (show 16 ≤ 100000 by omega) (show w ≤ 100000 by omega)).mp z; omega), s209_124, s209_129, s210_e, w210_16, s210_94, show ar σ1 7 0 1 = nI (xL X) from m1.2.2.2.1.1, Option.bind_some, Option.toList_some, Option.toList_none, List.cons_append, List.nil_append, true_or, or_true, if_true, if_false, i10, i01, Bool.false_eq_true]
    rfl
  · simp only [s209_e, s209_0, e1, w209_x (x := nI 17) (fun w h0 hw z => by have z' := (eqN (show 17 ≤ 100000 by omega) (show w ≤ 100000 by omega)).mp z; omega), s209_124, s209_129, s210_e, w210_17, s210_99, show ar σ1 7 0 8 = nI (xr X) from m1.2.2.2.2.2.2.1, Option.bind_some, Option.toList_some, Option.toList_none, List.cons_append, List.nil_append, true_or, or_true, if_true, if_false, i10, i01, Bool.false_eq_true]
    rfl
  · simp only [s209_e, s209_0, e1, w209_x (x := nI 18) (fun w h0 hw z => by have z' := (eqN (show 18 ≤ 100000 by omega) (show w ≤ 100000 by omega)).mp z; omega), s209_124, s209_129, s210_e, w210_18, s210_104, show ar σ1 7 0 20 = nI (xc X) from m1.2.2.2.2.2.2.2.1, Option.bind_some, Option.toList_some, Option.toList_none, List.cons_append, List.nil_append, true_or, or_true, if_true, if_false, i10, i01, Bool.false_eq_true]
    rfl
  · simp only [s209_e, s209_0, e1, w209_x (x := nI 19) (fun w h0 hw z => by have z' := (eqN (show 19 ≤ 100000 by omega) (show w ≤ 100000 by omega)).mp z; omega), s209_124, s209_129, s210_e, w210_19, s210_109, show ar σ1 7 0 23 = nI (xa X) from m1.2.2.2.2.2.2.2.2, Option.bind_some, Option.toList_some, Option.toList_none, List.cons_append, List.nil_append, true_or, or_true, if_true, if_false, i10, i01, Bool.false_eq_true]
    rfl
theorem op_count {x : Int32} (hw : Wf σ) (hc : CAt σ X) (hm : MAt σ X) (hx : WfX X) : Step d 121 211 [vI x] X σ := by
  have h6 := hx.1.2.1
  by_cases c : ∃ w, w < 20 ∧ x = nI w
  · obtain ⟨w, hw', rfl⟩ := c
    refine Step.rd hw hc hm hx (c_countW (d := d + 9) h6 hc hw') Ag.rf (fun m => ?_)
    obtain ⟨σ2, e2, g2⟩ := m_countOf (d := d + 8) hx m hw'
    refine ⟨σ2, ?_, QF.of g2⟩
    simp only [s211_e, s211_0, s211_5, e2, Option.bind_some, Option.toList_some, Option.toList_none, List.cons_append, List.nil_append, true_or, or_true, if_true, if_false, i10, i01, Bool.false_eq_true]
  · refine Step.rd hw hc hm hx (v := vI (-102)) (σ1 := σ) ?_ Ag.rf (fun m => ?_)
    · rw [s121_e, w121_x (fun w _ h2 z => c ⟨w, h2, z⟩), s121_247]
    · obtain ⟨σ1, e1, F1, g1⟩ := m_layFaces' (d := d + 9) (Or.inl rfl) h6 hx.1.2.2.1 m.1 m.2.1
      refine ⟨σ1, ?_, QF.of g1.fq⟩
      simp only [s211_e, s211_0, s211_5, s209_e, s209_0, e1, w209_x (fun w _ h2 z => c ⟨w, by omega, z⟩), s209_124, s209_129, s210_e, w210_x (fun w _ h2 z => c ⟨w, h2, z⟩), s210_114, Option.bind_some, Option.toList_some, Option.toList_none, List.cons_append, List.nil_append, true_or, or_true, if_true, if_false, i10, i01, Bool.false_eq_true]
end CT

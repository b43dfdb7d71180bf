/-! Calls of both: the digest. -/
def mx (h : Int64) (x : Int32) : Int64 := 31 * h + x.toInt64
/-- so many numbers told one behind the other -/
def frd (f : Nat → Int32) : Nat → Int64 → Int64
  | 0, h => h
  | k + 1, h => mx (frd f k h) (f k)
/-- what a house is to the other ones -/
def fod (A W : Nat → Int32) (a : Nat) : Nat → Int64 → Int64
  | 0, h => h
  | b + 1, h => if b = a then fod A W a b h else mx (mx (fod A W a b h) (A (6 * a + b))) (W (6 * a + b))
noncomputable def fhd (s : Sq) : Nat → Int64
  | 0 => 1093
  | a + 1 => fod (qA s) (qW s) a (qn s) (frd (tlH s a) 11 (fhd s a))
noncomputable def wbd (X : Ab) (h : Int64) : Int64 := frd (gAn (qn (xs X)) (qK (xs X)) (qW (xs X)) (qA (xs X)) 1 0 (xg X)) 3 (mx (mx (mx (frd (fun k => stA (qn (xs X)) (qK (xs X)) (qW (xs X)) (qA (xs X)) (10 + k)) 6 (mx h (stA (qn (xs X)) (qK (xs X)) (qW (xs X)) (qA (xs X)) 0))) (wlA (qn (xs X)) (qK (xs X)) (qW (xs X)) (qA (xs X)) 1 0)) (wlA (qn (xs X)) (qK (xs X)) (qW (xs X)) (qA (xs X)) 1 1)) (en (grd (qn (xs X)) (qK (xs X)) (qW (xs X)) (qA (xs X)) 0 1 2 9 1)))
noncomputable def dgd (X : Ab) : Int64 := frd (cnt X) 20 (frd (fun k => nI (xp X k)) (xL X) (if qn (xs X) = 0 then fhd (xs X) (qn (xs X)) else wbd X (fhd (xs X) (qn (xs X)))))
section DC
variable {d : Nat} {σ : St} {X : Ab}
theorem c_mix {h : Int64} {x : Int32} : call d 125 [vL h, vI x] σ = some (some (vL (mx h x)), σ) := by
  rw [s125_e, s125_0]
  rfl
theorem c_mixHouse {h : Int64} {a : Nat} (h6 : qn (xs X) ≤ 6) (hc : CAt σ X) (ha : a < qn (xs X)) : call (d + 5) 123 [vR 6 0, vL h, vI (nI a)] σ = some (some (vL (fod (qA (xs X)) (qW (xs X)) a (qn (xs X)) (frd (tlH (xs X) a) 11 h))), σ) := by
  have hn := hc.1.1.1
  have esz : call (d + 4) 51 [vR 5 0] σ = some (some (vI (nI (qn (xs X)))), σ) := by rw [c_size, hn]
  have loop1 : ∀ f w, w + f = 11 → exec (d + 5) 123 6 [vR 6 0, vL h, vN, vI (nI a), vL (frd (tlH (xs X) a) w h), vN, vI (nI w)] [] σ = exec (d + 5) 123 33 [vR 6 0, vL h, vN, vI (nI a), vL (frd (tlH (xs X) a) 11 h), vN, vI (nI 11)] [] σ := by
    intro f
    induction f with
    | zero =>
      intro w hw
      have e : w = 11 := by omega
      subst e
      rw [s123_6, show (11 : Int32) = nI 11 from rfl, if_neg nlt]
    | succ f ih =>
      intro w hw
      have lt11 : nI w < 11 := by rw [show (11 : Int32) = nI 11 from rfl]; exact ltn (by omega) (by omega)
      have e1 := c_tell (d := d) h6 hc.1 ha (show w < 11 by omega)
      rw [s123_6, if_pos lt11]
      simp only [s123_13, s123_22, s123_25, e1, c_mix, add1N, Option.bind_some, Option.toList_some, Option.toList_none, List.cons_append, List.nil_append, true_or, or_true, if_true, if_false, i10, i01, Bool.false_eq_true]
      exact ih (w + 1) (by omega)
  have hd2 : ∀ (h' : Int64) (x : Int32), exec (d + 5) 123 36 [vR 6 0, vL h, vN, vI (nI a), vL h', vN, vI x] [] σ = if x < nI (qn (xs X)) then exec (d + 5) 123 48 [vR 6 0, vL h, vN, vI (nI a), vL h', vN, vI x] [] σ else exec (d + 5) 123 94 [vR 6 0, vL h, vN, vI (nI a), vL h', vN, vI x] [] σ := fun h' x => by
    simp only [s123_36, s123_45, esz, Option.bind_some, Option.toList_some, Option.toList_none, List.cons_append, List.nil_append, true_or, or_true, if_true, if_false, i10, i01, Bool.false_eq_true]
  have loop2 : ∀ f b, b + f = qn (xs X) → exec (d + 5) 123 36 [vR 6 0, vL h, vN, vI (nI a), vL (fod (qA (xs X)) (qW (xs X)) a b (frd (tlH (xs X) a) 11 h)), vN, vI (nI b)] [] σ = some (some (vL (fod (qA (xs X)) (qW (xs X)) a (qn (xs X)) (frd (tlH (xs X) a) 11 h))), σ) := by
    intro f
    induction f with
    | zero =>
      intro b hb
      have e : b = qn (xs X) := by omega
      subst e
      rw [hd2, if_neg nlt, s123_94]
    | succ f ih =>
      intro b hb
      have lt : nI b < nI (qn (xs X)) := ltn (by omega) (by omega)
      have ih' := ih (b + 1) (by omega)
      rw [fod] at ih'
      have eab : (nI b = nI a) = (b = a) := eqN (by omega) (by omega)
      by_cases c : b = a
      · rw [if_pos c] at ih'
        rw [hd2, if_pos lt, s123_48, if_pos (eab.mpr c), s123_88, add1N]
        exact ih'
      · rw [if_neg c] at ih'
        have e1 := c_angerAt (d := d + 3) (σ := σ) (q := 0) (show a < 6 by omega) (show b < 6 by omega)
        have e2 := c_wallBetween (d := d + 3) (σ := σ) (q := 0) (show a < 6 by omega) (show b < 6 by omega)
        rw [hc.1.1.2.2.2.1] at e1
        rw [hc.1.1.2.2.1] at e2
        rw [hd2, if_pos lt]
        simp only [s123_48, s123_54, s123_66, s123_69, s123_83, s123_86, s123_88, eab.trans (eq_false c), e1, e2, c_mix, add1N, Option.bind_some, Option.toList_some, Option.toList_none, List.cons_append, List.nil_append, true_or, or_true, if_true, if_false, i10, i01, Bool.false_eq_true]
        exact ih'
  rw [s123_e, s123_0]
  refine (loop1 11 0 rfl).trans ?_
  rw [s123_33]
  exact loop2 (qn (xs X)) 0 (by omega)
theorem c_mixWouldBe {h : Int64} (hw : Wf σ) (hx : WfX X) (hc : CAt σ X) (h0 : 0 < qn (xs X)) : ∃ σ', call (d + 5) 124 [vR 6 0, vL h] σ = some (some (vL (wbd X h)), σ') ∧ Ag Scr σ σ' := by
  have h6 := hx.1.2.1
  have h3 : 3 ≤ qn (xs X) := by rcases hx.1.1 with h | h; omega; exact h
  obtain ⟨σ1, e1, q1, L1, g1⟩ := c_settle (d := d) h6 hc.1.1
  have c1 := hc.scr g1
  have es := fun (x : Nat) (hx : x = 0 ∨ (10 ≤ x ∧ x ≤ 15)) => c_settled (d := d + 3) (x := x) h6 q1 L1 hx
  obtain ⟨h1, hh1⟩ : ∃ h1, h1 = mx h (stA (qn (xs X)) (qK (xs X)) (qW (xs X)) (qA (xs X)) 0) := ⟨_, rfl⟩
  have es0 : call (d + 4) 7 [vR 1 0, vI 0] σ1 = some (some (vI (stA (qn (xs X)) (qK (xs X)) (qW (xs X)) (qA (xs X)) 0)), σ1) := es 0 (Or.inl rfl)
  have loop1 : ∀ f k, k + f = 6 → exec (d + 5) 124 28 [vR 6 0, vL h, vN, vL (frd (fun k => stA (qn (xs X)) (qK (xs X)) (qW (xs X)) (qA (xs X)) (10 + k)) k h1), vN, vI (nI (10 + k))] [] σ1 = exec (d + 5) 124 55 [vR 6 0, vL h, vN, vL (frd (fun k => stA (qn (xs X)) (qK (xs X)) (qW (xs X)) (qA (xs X)) (10 + k)) 6 h1), vN, vI (nI 16)] [] σ1 := by
    intro f
    induction f with
    | zero =>
      intro k hk
      have e : k = 6 := by omega
      subst e
      rw [s124_28, if_pos (show (15 : Int32) < nI (10 + 6) by decide)]
    | succ f ih =>
      intro k hk
      have nl : ¬ (15 : Int32) < nI (10 + k) := fun z => by
        have := (nI_ltI (a := 15) (by omega) (show 10 + k < 2 ^ 31 by omega)).mp z
        omega
      have e2 := es (10 + k) (Or.inr ⟨by omega, by omega⟩)
      rw [s124_28, if_neg nl]
      simp only [s124_35, s124_45, s124_48, e2, c_mix, add1N, Option.bind_some, Option.toList_some, Option.toList_none, List.cons_append, List.nil_append, true_or, or_true, if_true, if_false, i10, i01, Bool.false_eq_true]
      exact ih (k + 1) (by omega)
  obtain ⟨σ2, e2, p1, p2, g2⟩ := c_findWall (d := d) (m := 1) h6 (by omega) c1.1.1
  have c2 := c1.scr g2
  have w0 : call (d + 4) 11 [vR 1 0, vI 0] σ2 = some (some (vI (wlA (qn (xs X)) (qK (xs X)) (qW (xs X)) (qA (xs X)) 1 0)), σ2) := c_walled (d := d + 3) (x := 0) (by omega) p1 p2
  have w1 : call (d + 4) 11 [vR 1 0, vI 1] σ2 = some (some (vI (wlA (qn (xs X)) (qK (xs X)) (qW (xs X)) (qA (xs X)) 1 1)), σ2) := c_walled (d := d + 3) (x := 1) (by omega) p1 p2
  obtain ⟨σ3, e3, g3⟩ := c_leastGrudge (d := d) (a := 0) (b := 1) (m := 2) h6 (by omega) (by omega) (by omega) c2.1.1
  have c3 := c2.scr g3
  have wf3 : Wf σ3 := call_wf e3 (call_wf e2 (call_wf e1 hw))
  obtain ⟨σ4, e4, G4, g4⟩ := c_find (d := d) (a := 1) (b := 0) h6 (by omega) (by omega) hx.2.1 c3.2.1 c3.1.1 wf3
  have ef := fun (x : Nat) (hx : x ≤ 2) => c_guessFound (d := d + 2) (x := x) (by omega) G4
  obtain ⟨h4, hh4⟩ : ∃ h4, h4 = mx (mx (mx (frd (fun k => stA (qn (xs X)) (qK (xs X)) (qW (xs X)) (qA (xs X)) (10 + k)) 6 h1) (wlA (qn (xs X)) (qK (xs X)) (qW (xs X)) (qA (xs X)) 1 0)) (wlA (qn (xs X)) (qK (xs X)) (qW (xs X)) (qA (xs X)) 1 1)) (en (grd (qn (xs X)) (qK (xs X)) (qW (xs X)) (qA (xs X)) 0 1 2 9 1)) := ⟨_, rfl⟩
  have loop2 : ∀ f k, k + f = 3 → exec (d + 5) 124 132 [vR 6 0, vL h, vN, vL (frd (gAn (qn (xs X)) (qK (xs X)) (qW (xs X)) (qA (xs X)) 1 0 (xg X)) k h4), vN, vI (nI k)] [] σ4 = some (some (vL (frd (gAn (qn (xs X)) (qK (xs X)) (qW (xs X)) (qA (xs X)) 1 0 (xg X)) 3 h4)), σ4) := by
    intro f
    induction f with
    | zero =>
      intro k hk
      have e : k = 3 := by omega
      subst e
      rw [s124_132, if_pos (show (2 : Int32) < nI 3 by decide), s124_158]
    | succ f ih =>
      intro k hk
      have nl : ¬ (2 : Int32) < nI k := fun z => by
        have := (nI_ltI (a := 2) (by omega) (show k < 2 ^ 31 by omega)).mp z
        omega
      have e2 := ef k (by omega)
      rw [s124_132, if_neg nl]
      simp only [s124_138, s124_148, s124_151, e2, c_mix, add1N, Option.bind_some, Option.toList_some, Option.toList_none, List.cons_append, List.nil_append, true_or, or_true, if_true, if_false, i10, i01, Bool.false_eq_true]
      exact ih (k + 1) (by omega)
  refine ⟨σ4, ?_, ((g1.tr g2).tr g3).tr g4⟩
  have l1 : exec (d + 5) 124 28 [vR 6 0, vL h, vN, vL h1, vN, vI 10] [] σ1 = exec (d + 5) 124 55 [vR 6 0, vL h, vN, vL (frd (fun k => stA (qn (xs X)) (qK (xs X)) (qW (xs X)) (qA (xs X)) (10 + k)) 6 h1), vN, vI (nI 16)] [] σ1 := loop1 6 0 rfl
  have l2 : exec (d + 5) 124 132 [vR 6 0, vL h, vN, vL h4, vN, vI 0] [] σ4 = some (some (vL (frd (gAn (qn (xs X)) (qK (xs X)) (qW (xs X)) (qA (xs X)) 1 0 (xg X)) 3 h4)), σ4) := loop2 3 0 rfl
  have e2' : call (d + 4) 9 [vR 1 0, vR 5 0, vI 1] σ1 = some (none, σ2) := e2
  have e3' : call (d + 4) 8 [vR 1 0, vR 5 0, vI 0, vI 1, vI 2] σ2 = some (some (vI (en (grd (qn (xs X)) (qK (xs X)) (qW (xs X)) (qA (xs X)) 0 1 2 9 1))), σ3) := e3
  have e4' : call (d + 4) 0 [vR 0 0, vR 5 0, vR 4 0, vI 1, vI 0] σ3 = some (none, σ4) := e4
  have st1 : call (d + 5) 124 [vR 6 0, vL h] σ = exec (d + 5) 124 28 [vR 6 0, vL h, vN, vL h1, vN, vI 10] [] σ1 := by
    simp only [s124_e, s124_0, s124_11, s124_20, s124_23, e1, es0, c_mix, ← hh1, Option.bind_some, Option.toList_some, Option.toList_none, List.cons_append, List.nil_append, true_or, or_true, if_true, if_false, i10, i01, Bool.false_eq_true]
  have st2 : exec (d + 5) 124 55 [vR 6 0, vL h, vN, vL (frd (fun k => stA (qn (xs X)) (qK (xs X)) (qW (xs X)) (qA (xs X)) (10 + k)) 6 h1), vN, vI (nI 16)] [] σ1 = exec (d + 5) 124 132 [vR 6 0, vL h, vN, vL h4, vN, vI 0] [] σ4 := by
    simp only [s124_55, s124_67, s124_76, s124_79, s124_89, s124_92, s124_108, s124_111, s124_129, e2', w0, w1, e3', e4', c_mix, ← hh4, Option.bind_some, Option.toList_some, Option.toList_none, List.cons_append, List.nil_append, true_or, or_true, if_true, if_false, i10, i01, Bool.false_eq_true]
  rw [st1, l1, st2, l2, hh4, hh1]
  rfl
theorem c_digest (hw : Wf σ) (hx : WfX X) (hc : CAt σ X) : ∃ σ', call (d + 6) 122 [vR 6 0] σ = some (some (vL (dgd X)), σ') ∧ Ag Scr σ σ' := by
  have h6 := hx.1.2.1
  have loop1 : ∀ f a, a + f = qn (xs X) → exec (d + 6) 122 6 [vR 6 0, vL (fhd (xs X) a), vN, vI (nI a)] [] σ = exec (d + 6) 122 30 [vR 6 0, vL (fhd (xs X) (qn (xs X))), vN, vI (nI (qn (xs X)))] [] σ := by
    have esz : call (d + 5) 51 [vR 5 0] σ = some (some (vI (nI (qn (xs X)))), σ) := by rw [c_size, hc.1.1.1]
    have hd : ∀ (h' : Int64) (x : Int32), exec (d + 6) 122 6 [vR 6 0, vL h', vN, vI x] [] σ = if x < nI (qn (xs X)) then exec (d + 6) 122 17 [vR 6 0, vL h', vN, vI x] [] σ else exec (d + 6) 122 30 [vR 6 0, vL h', vN, vI x] [] σ := fun h' x => by
      simp only [s122_6, s122_14, esz, Option.bind_some, Option.toList_some, Option.toList_none, List.cons_append, List.nil_append, true_or, or_true, if_true, if_false, i10, i01, Bool.false_eq_true]
    intro f
    induction f with
    | zero =>
      intro a ha
      have e : a = qn (xs X) := by omega
      subst e
      rw [hd, if_neg nlt]
    | succ f ih =>
      intro a ha
      have lt : nI a < nI (qn (xs X)) := ltn (by omega) (by omega)
      have e1 := c_mixHouse (d := d) (h := fhd (xs X) a) h6 hc (show a < qn (xs X) by omega)
      rw [hd, if_pos lt]
      simp only [s122_17, s122_23, e1, add1N, Option.bind_some, Option.toList_some, Option.toList_none, List.cons_append, List.nil_append, true_or, or_true, if_true, if_false, i10, i01, Bool.false_eq_true]
      exact ih (a + 1) (by omega)
  have tail : ∀ (σ : St) (h : Int64) (x3 : Int32), CAt σ X → exec (d + 6) 122 46 [vR 6 0, vL h, vN, vI x3] [] σ = some (some (vL (frd (cnt X) 20 (frd (fun k => nI (xp X k)) (xL X) h))), σ) := by
    intro σ h x3 hc
    have P := hc.2.2.1
    have h38 := P.2.1
    have esz := c_pageSize (d := d + 5) P
    have hd : ∀ (h' : Int64) (x : Int32), exec (d + 6) 122 48 [vR 6 0, vL h', vN, vI x] [] σ = if x < nI (xL X) then exec (d + 6) 122 59 [vR 6 0, vL h', vN, vI x] [] σ else exec (d + 6) 122 78 [vR 6 0, vL h', vN, vI x] [] σ := fun h' x => by
      simp only [s122_48, s122_56, esz, Option.bind_some, Option.toList_some, Option.toList_none, List.cons_append, List.nil_append, true_or, or_true, if_true, if_false, i10, i01, Bool.false_eq_true]
    have lp : ∀ f k, k + f = xL X → exec (d + 6) 122 48 [vR 6 0, vL (frd (fun k => nI (xp X k)) k h), vN, vI (nI k)] [] σ = exec (d + 6) 122 78 [vR 6 0, vL (frd (fun k => nI (xp X k)) (xL X) h), vN, vI (nI (xL X))] [] σ := by
      intro f
      induction f with
      | zero =>
        intro k hk
        have e : k = xL X := by omega
        subst e
        rw [hd, if_neg nlt]
      | succ f ih =>
        intro k hk
        have lt : nI k < nI (xL X) := ltn (by omega) (by omega)
        have e1 := c_letterAt (d := d + 5) P (show k < xL X by omega)
        rw [hd, if_pos lt]
        simp only [s122_59, s122_68, s122_71, e1, c_mix, add1N, Option.bind_some, Option.toList_some, Option.toList_none, List.cons_append, List.nil_append, true_or, or_true, if_true, if_false, i10, i01, Bool.false_eq_true]
        exact ih (k + 1) (by omega)
    have lc : ∀ f w, w + f = 20 → exec (d + 6) 122 80 [vR 6 0, vL (frd (cnt X) w (frd (fun k => nI (xp X k)) (xL X) h)), vN, vI (nI w)] [] σ = some (some (vL (frd (cnt X) 20 (frd (fun k => nI (xp X k)) (xL X) h))), σ) := by
      intro f
      induction f with
      | zero =>
        intro w hw
        have e : w = 20 := by omega
        subst e
        rw [s122_80, show (20 : Int32) = nI 20 from rfl, if_neg nlt, s122_102]
      | succ f ih =>
        intro w hw
        have lt20 : nI w < 20 := by rw [show (20 : Int32) = nI 20 from rfl]; exact ltn (by omega) (by omega)
        have e1 := c_countW (d := d + 2) h6 hc (show w < 20 by omega)
        rw [s122_80, if_pos lt20]
        simp only [s122_86, s122_92, s122_95, e1, c_mix, add1N, Option.bind_some, Option.toList_some, Option.toList_none, List.cons_append, List.nil_append, true_or, or_true, if_true, if_false, i10, i01, Bool.false_eq_true]
        exact ih (w + 1) (by omega)
    rw [s122_46]
    refine (lp (xL X) 0 (by omega)).trans ?_
    rw [s122_78]
    exact lc 20 0 rfl
  have l1 : exec (d + 6) 122 6 [vR 6 0, vL 1093, vN, vI 0] [] σ = exec (d + 6) 122 30 [vR 6 0, vL (fhd (xs X) (qn (xs X))), vN, vI (nI (qn (xs X)))] [] σ := loop1 (qn (xs X)) 0 (by omega)
  unfold dgd
  by_cases c : qn (xs X) = 0
  · have hn := hc.1.1.1
    rw [c] at hn
    have e1 := c_stands_f (d := d + 5) hn
    refine ⟨σ, ?_, Ag.rf⟩
    rw [if_pos c, s122_e, s122_0, l1]
    simp only [s122_30, s122_37, e1, Option.bind_some, Option.toList_some, Option.toList_none, List.cons_append, List.nil_append, true_or, or_true, if_true, if_false, i10, i01, Bool.false_eq_true]
    exact tail σ _ _ hc
  · obtain ⟨σ1, e2, g1⟩ := c_mixWouldBe (d := d) (h := fhd (xs X) (qn (xs X))) hw hx hc (by omega)
    have e1 := c_stands_t (d := d + 5) hc.1.1.1 h6 (show 0 < qn (xs X) by omega)
    refine ⟨σ1, ?_, g1⟩
    rw [if_neg c, s122_e, s122_0, l1]
    simp only [s122_30, s122_37, s122_40, s122_45, e1, e2, Option.bind_some, Option.toList_some, Option.toList_none, List.cons_append, List.nil_append, true_or, or_true, if_true, if_false, i10, i01, Bool.false_eq_true]
    exact tail σ1 _ _ (hc.scr g1)
end DC
section DM
variable {d : Nat} {σ σ' : St} {X : Ab}
theorem MAt.sh {x : Int64} (h : MAt σ X) : MAt (sh σ x) X := h.fr (fun _ _ => rfl)
theorem AgM.sh {x : Int64} : AgM σ (sh σ x) := ⟨fun _ _ _ => rfl, rfl⟩
theorem hs_ag {S : Nat → Nat → Prop} (g : Ag S σ σ') : hs σ' = hs σ := congrArg Prod.fst g.2
/-- one step of a digest -/
theorem m_say {y : Int32} : call d 212 [vR 7 0, vL y.toInt64] σ = some (none, sh σ (mx (hs σ) y)) := by
  rw [s212_e, s212_0]
  rfl
theorem m_sayHouse {a : Nat} (hx : WfX X) (ha : a < qn (xs X)) (m : MAt σ X) : ∃ σ', call (d + 4) 213 [vR 7 0, vI (nI a)] σ = some (none, σ') ∧ hs σ' = fod (qA (xs X)) (qW (xs X)) a (qn (xs X)) (frd (tlH (xs X) a) 11 (hs σ)) ∧ MAt σ' X ∧ AgM σ σ' := by
  have h6 := hx.1.2.1
  have loop1 : ∀ f w, w + f = 11 → ∀ (σ : St) (h : Int64), MAt σ X → hs σ = frd (tlH (xs X) a) w h → ∃ σ', exec (d + 4) 213 2 [vR 7 0, vI (nI a), vI (nI w)] [] σ = exec (d + 4) 213 25 [vR 7 0, vI (nI a), vI (nI 11)] [] σ' ∧ hs σ' = frd (tlH (xs X) a) 11 h ∧ MAt σ' X ∧ AgM σ σ' := by
    intro f
    induction f with
    | zero =>
      intro w hw σ h m hh
      have e : w = 11 := by omega
      subst e
      exact ⟨σ, by rw [s213_2, show (11 : Int32) = nI 11 from rfl, if_neg nlt], hh, m, AgM.rf⟩
    | succ f ih =>
      intro w hw σ h m hh
      have lt11 : nI w < 11 := by rw [show (11 : Int32) = nI 11 from rfl]; exact ltn (by omega) (by omega)
      obtain ⟨σ1, e1, g1⟩ := m_tellHouse (d := d) h6 hx.1.2.2.1 m.1 m.2.1 m.2.2.2.2.1 ha (show w < 11 by omega)
      have m1 := m.qm g1
      obtain ⟨σ2, e2, h2, m2, g2⟩ := ih (w + 1) (by omega) (sh σ1 (mx (hs σ1) (tlH (xs X) a w))) h m1.sh (by rw [hs_sh, hs_ag g1, hh]; rfl)
      refine ⟨σ2, ?_, h2, m2, ((AgM.qm g1).tr AgM.sh).tr g2⟩
      rw [s213_2, if_pos lt11]
      simp only [s213_8, s213_15, s213_19, e1, m_say, add1N, Option.bind_some, Option.toList_some, Option.toList_none, List.cons_append, List.nil_append, true_or, or_true, if_true, if_false, i10, i01, Bool.false_eq_true]
      exact e2
  have loop2 : ∀ f b, b + f = qn (xs X) → ∀ (σ : St) (h : Int64), MAt σ X → hs σ = fod (qA (xs X)) (qW (xs X)) a b h → ∃ σ', exec (d + 4) 213 27 [vR 7 0, vI (nI a), vI (nI b)] [] σ = some (none, σ') ∧ hs σ' = fod (qA (xs X)) (qW (xs X)) a (qn (xs X)) h ∧ MAt σ' X ∧ AgM σ σ' := by
    intro f
    induction f with
    | zero =>
      intro b hb σ h m hh
      have e : b = qn (xs X) := by omega
      rw [e] at hh
      exact ⟨σ, by rw [s213_27, m.1.1, e, if_neg nlt, s213_78], hh, m, AgM.rf⟩
    | succ f ih =>
      intro b hb σ h m hh
      have eab : (nI b = nI a) = (b = a) := eqN (by omega) (by omega)
      rw [s213_27, m.1.1, if_pos (ltn (show b < qn (xs X) by omega) (by omega)), s213_35]
      by_cases c : b = a
      · obtain ⟨σ2, e2, h2, m2, g2⟩ := ih (b + 1) (by omega) σ h m (by rw [fod, if_pos c]; exact hh)
        refine ⟨σ2, ?_, h2, m2, g2⟩
        rw [if_pos (eab.mpr c), s213_72, add1N]
        exact e2
      · have iab := oob_nI (show 6 * a + b < 36 by omega) (show 36 ≤ 1000 by omega)
        have cab := clN (show 6 * a + b ≤ 100000 by omega)
        have r35 : ar σ 35 0 (6 * a + b) = qA (xs X) (6 * a + b) := m.2.1 _ (by omega)
        have r36 : ar (sh σ (mx (hs σ) (qA (xs X) (6 * a + b)))) 36 0 (6 * a + b) = qW (xs X) (6 * a + b) := m.1.2.2 _ (by omega)
        obtain ⟨σ2, e2, h2, m2, g2⟩ := ih (b + 1) (by omega) (sh (sh σ (mx (hs σ) (qA (xs X) (6 * a + b)))) (mx (mx (hs σ) (qA (xs X) (6 * a + b))) (qW (xs X) (6 * a + b)))) h m.sh.sh (by rw [fod, if_neg c, hs_sh, hh])
        refine ⟨σ2, ?_, h2, m2, (AgM.sh.tr AgM.sh).tr g2⟩
        rw [if_neg (fun z => c (eab.mp z))]
        simp only [s213_40, s213_52, s213_56, s213_68, s213_72, mul6N', addN, iab, cab, r35, r36, m_say, hs_sh, add1N, Option.bind_some, Option.toList_some, Option.toList_none, List.cons_append, List.nil_append, true_or, or_true, if_true, if_false, i10, i01, Bool.false_eq_true]
        exact e2
  obtain ⟨σ1, e1, h1, m1, g1⟩ := loop1 11 0 rfl σ (hs σ) m rfl
  obtain ⟨σ2, e2, h2, m2, g2⟩ := loop2 (qn (xs X)) 0 (by omega) σ1 (frd (tlH (xs X) a) 11 (hs σ)) m1 h1
  refine ⟨σ2, ?_, h2, m2, g1.tr g2⟩
  rw [s213_e, s213_0]
  refine Eq.trans e1 ?_
  rw [s213_25]
  exact e2
theorem m_saySquare (hx : WfX X) (h0 : 0 < qn (xs X)) (m : MAt σ X) : ∃ σ', call (d + 6) 214 [vR 7 0] σ = some (none, σ') ∧ hs σ' = wbd X (hs σ) ∧ MAt σ' X ∧ AgM σ σ' := by
  have h6 := hx.1.2.1
  have h3 : 3 ≤ qn (xs X) := by rcases hx.1.1 with h | h; omega; exact h
  have hW1 := hx.1.2.2.1
  have hz := hx.1.2.2.2.2.2.1
  obtain ⟨σ1, e1, g1⟩ := m_settlesOf (d := d + 1) (x := 0) h6 hW1 hz m.1 m.2.1 (Or.inl rfl)
  have m1 := m.qm g1
  obtain ⟨h1, hh1⟩ : ∃ h1, h1 = mx (hs σ) (stA (qn (xs X)) (qK (xs X)) (qW (xs X)) (qA (xs X)) 0) := ⟨_, rfl⟩
  have loop1 : ∀ f k, k + f = 6 → ∀ σ : St, MAt σ X → hs σ = frd (fun k => stA (qn (xs X)) (qK (xs X)) (qW (xs X)) (qA (xs X)) (10 + k)) k h1 → ∃ σ', exec (d + 6) 214 13 [vR 7 0, vI (nI (10 + k))] [] σ = exec (d + 6) 214 35 [vR 7 0, vI (nI 16)] [] σ' ∧ hs σ' = frd (fun k => stA (qn (xs X)) (qK (xs X)) (qW (xs X)) (qA (xs X)) (10 + k)) 6 h1 ∧ MAt σ' X ∧ AgM σ σ' := by
    intro f
    induction f with
    | zero =>
      intro k hk σ m hh
      have e : k = 6 := by omega
      subst e
      exact ⟨σ, by rw [s214_13, if_neg (show ¬ nI (10 + 6) < 16 by decide)], hh, m, AgM.rf⟩
    | succ f ih =>
      intro k hk σ m hh
      have lt16 : nI (10 + k) < 16 := by rw [show (16 : Int32) = nI 16 from rfl]; exact ltn (by omega) (by omega)
      obtain ⟨σ1, e1, g1⟩ := m_settlesOf (d := d + 1) (x := 10 + k) h6 hW1 hz m.1 m.2.1 (Or.inr ⟨by omega, by omega⟩)
      have m1 := m.qm g1
      obtain ⟨σ2, e2, h2, m2, g2⟩ := ih (k + 1) (by omega) (sh σ1 (mx (hs σ1) (stA (qn (xs X)) (qK (xs X)) (qW (xs X)) (qA (xs X)) (10 + k)))) m1.sh (by rw [hs_sh, hs_ag g1, hh]; rfl)
      refine ⟨σ2, ?_, h2, m2, ((AgM.qm g1).tr AgM.sh).tr g2⟩
      rw [s214_13, if_pos lt16]
      simp only [s214_19, s214_25, s214_29, e1, m_say, add1N, Option.bind_some, Option.toList_some, Option.toList_none, List.cons_append, List.nil_append, true_or, or_true, if_true, if_false, i10, i01, Bool.false_eq_true]
      exact e2
  obtain ⟨σ2, e2, h2, m2, g2⟩ := loop1 6 0 rfl (sh σ1 h1) m1.sh hs_sh
  obtain ⟨σ3, e3, o3, M3, s3⟩ := m_wallsOf (d := d) (m := 1) (x := 0) h6 (by omega) (by omega) hW1 hx.1.2.2.2.1 hz m2.1 m2.2.1
  have m3 : MAt σ3 X := m2.kp ⟨fun t ht => o3 t 0 (by unfold QM; omega), fun j _ _ => by rw [o3 7 0 (by unfold QM; omega)]⟩ M3
  have g3 : AgM σ2 σ3 := ⟨fun t q z => o3 t q (by unfold QM; omega), by rw [s3]⟩
  have hs3 : hs σ3 = hs σ2 := congrArg Prod.fst s3
  obtain ⟨h4, hh4⟩ : ∃ h4, h4 = mx (frd (fun k => stA (qn (xs X)) (qK (xs X)) (qW (xs X)) (qA (xs X)) (10 + k)) 6 h1) (wlA (qn (xs X)) (qK (xs X)) (qW (xs X)) (qA (xs X)) 1 0) := ⟨_, rfl⟩
  obtain ⟨σ4, e4, o4, M4, s4⟩ := m_wallsOf (d := d) (σ := sh σ3 h4) (m := 1) (x := 1) h6 (by omega) (by omega) hW1 hx.1.2.2.2.1 hz m3.sh.1 m3.sh.2.1
  have m4 : MAt σ4 X := m3.sh.kp ⟨fun t ht => o4 t 0 (by unfold QM; omega), fun j _ _ => by rw [o4 7 0 (by unfold QM; omega)]⟩ M4
  have g4 : AgM (sh σ3 h4) σ4 := ⟨fun t q z => o4 t q (by unfold QM; omega), by rw [s4]⟩
  have hs4 : hs σ4 = h4 := congrArg Prod.fst s4
  obtain ⟨h5, hh5⟩ : ∃ h5, h5 = mx h4 (wlA (qn (xs X)) (qK (xs X)) (qW (xs X)) (qA (xs X)) 1 1) := ⟨_, rfl⟩
  obtain ⟨σ5, e5, g5⟩ := m_grudgeOf (d := d + 1) (σ := sh σ4 h5) (a := 0) (b := 1) (m := 2) h6 (by omega) (by omega) (by omega) (by omega) hW1 hz m4.sh.1 m4.sh.2.1
  have m5 : MAt σ5 X := m4.sh.qm g5
  have hs5 : hs σ5 = h5 := hs_ag g5
  obtain ⟨h6', hh6⟩ : ∃ h6', h6' = mx h5 (en (grd (qn (xs X)) (qK (xs X)) (qW (xs X)) (qA (xs X)) 0 1 2 9 1)) := ⟨_, rfl⟩
  have loop2 : ∀ f k, k + f = 3 → ∀ σ : St, MAt σ X → hs σ = frd (gAn (qn (xs X)) (qK (xs X)) (qW (xs X)) (qA (xs X)) 1 0 (xg X)) k h6' → ∃ σ', exec (d + 6) 214 71 [vR 7 0, vI (nI k)] [] σ = some (none, σ') ∧ hs σ' = frd (gAn (qn (xs X)) (qK (xs X)) (qW (xs X)) (qA (xs X)) 1 0 (xg X)) 3 h6' ∧ MAt σ' X ∧ AgM σ σ' := by
    intro f
    induction f with
    | zero =>
      intro k hk σ m hh
      have e : k = 3 := by omega
      subst e
      exact ⟨σ, by rw [s214_71, if_neg (show ¬ nI 3 < 3 by decide), s214_94], hh, m, AgM.rf⟩
    | succ f ih =>
      intro k hk σ m hh
      have lt3 : nI k < 3 := by rw [show (3 : Int32) = nI 3 from rfl]; exact ltn (by omega) (by omega)
      obtain ⟨σ1, e1, g1⟩ := m_spanOf (d := d + 1) (a := 1) (b := 0) (x := k) h6 (by omega) (by omega) (by omega) (by omega) hx.2.1 hW1 hz m.1 m.2.1 m.2.2.1
      have m1 := m.qm g1
      obtain ⟨σ2, e2, h2, m2, g2⟩ := ih (k + 1) (by omega) (sh σ1 (mx (hs σ1) (gAn (qn (xs X)) (qK (xs X)) (qW (xs X)) (qA (xs X)) 1 0 (xg X) k))) m1.sh (by rw [hs_sh, hs_ag g1, hh]; rfl)
      refine ⟨σ2, ?_, h2, m2, ((AgM.qm g1).tr AgM.sh).tr g2⟩
      have e1' : call (d + 5) 198 [vR 7 0, vI 1, vI 0, vI (nI k)] σ = some (some (vI (gAn (qn (xs X)) (qK (xs X)) (qW (xs X)) (qA (xs X)) 1 0 (xg X) k)), σ1) := e1
      rw [s214_71, if_pos lt3]
      simp only [s214_76, s214_84, s214_88, e1', m_say, add1N, Option.bind_some, Option.toList_some, Option.toList_none, List.cons_append, List.nil_append, true_or, or_true, if_true, if_false, i10, i01, Bool.false_eq_true]
      exact e2
  obtain ⟨σ7, e7, h7, m7, g7⟩ := loop2 3 0 rfl (sh σ5 h6') m5.sh hs_sh
  refine ⟨σ7, ?_, ?_, m7, ((((((((AgM.qm g1).tr AgM.sh).tr g2).tr g3).tr AgM.sh).tr g4).tr AgM.sh).tr ((AgM.qm g5).tr AgM.sh)).tr g7⟩
  · have e1' : call (d + 5) 173 [vR 7 0, vI 0] σ = some (some (vI (stA (qn (xs X)) (qK (xs X)) (qW (xs X)) (qA (xs X)) 0)), σ1) := e1
    have e2' : exec (d + 6) 214 13 [vR 7 0, vI 10] [] (sh σ1 h1) = exec (d + 6) 214 35 [vR 7 0, vI (nI 16)] [] σ2 := e2
    have e3' : call (d + 5) 189 [vR 7 0, vI 1, vI 0] σ2 = some (some (vI (wlA (qn (xs X)) (qK (xs X)) (qW (xs X)) (qA (xs X)) 1 0)), σ3) := e3
    have e4' : call (d + 5) 189 [vR 7 0, vI 1, vI 1] (sh σ3 h4) = some (some (vI (wlA (qn (xs X)) (qK (xs X)) (qW (xs X)) (qA (xs X)) 1 1)), σ4) := e4
    have e5' : call (d + 5) 186 [vR 7 0, vI 0, vI 1, vI 2] (sh σ4 h5) = some (some (vI (en (grd (qn (xs X)) (qK (xs X)) (qW (xs X)) (qA (xs X)) 0 1 2 9 1))), σ5) := e5
    have q1 : mx (hs σ1) (stA (qn (xs X)) (qK (xs X)) (qW (xs X)) (qA (xs X)) 0) = h1 := by rw [hs_ag g1, hh1]
    have q3 : mx (hs σ3) (wlA (qn (xs X)) (qK (xs X)) (qW (xs X)) (qA (xs X)) 1 0) = h4 := by rw [hs3, h2, hh4]
    have q4 : mx (hs σ4) (wlA (qn (xs X)) (qK (xs X)) (qW (xs X)) (qA (xs X)) 1 1) = h5 := by rw [hs4, hh5]
    have q5 : mx (hs σ5) (en (grd (qn (xs X)) (qK (xs X)) (qW (xs X)) (qA (xs X)) 0 1 2 9 1)) = h6' := by rw [hs5, hh6]
    have e7' : exec (d + 6) 214 71 [vR 7 0, vI 0] [] (sh σ5 h6') = some (none, σ7) := e7
    simp only [s214_e, s214_0, s214_6, s214_10, e1', m_say, q1, Option.bind_some, Option.toList_some, Option.toList_none, List.cons_append, List.nil_append, true_or, or_true, if_true, if_false, i10, i01, Bool.false_eq_true]
    rw [e2']
    simp only [s214_35, s214_42, s214_46, s214_53, s214_57, s214_65, s214_69, e3', m_say, q3, e4', q4, e5', q5, Option.bind_some, Option.toList_some, Option.toList_none, List.cons_append, List.nil_append, true_or, or_true, if_true, if_false, i10, i01, Bool.false_eq_true]
    exact e7'
  · rw [h7, hh6, hh5, hh4, hh1]
    rfl
theorem m_digest (hx : WfX X) (m : MAt σ X) : ∃ σ', call (d + 7) 215 [vR 7 0] σ = some (some (vL (dgd X)), σ') ∧ MAt σ' X ∧ AgM σ σ' := by
  have h6 := hx.1.2.1
  have loop1 : ∀ f a, a + f = qn (xs X) → ∀ σ : St, MAt σ X → hs σ = fhd (xs X) a → ∃ σ', exec (d + 7) 215 9 [vR 7 0, vI (nI a)] [] σ = exec (d + 7) 215 28 [vR 7 0, vI (nI (qn (xs X)))] [] σ' ∧ hs σ' = fhd (xs X) (qn (xs X)) ∧ MAt σ' X ∧ AgM σ σ' := by
    intro f
    induction f with
    | zero =>
      intro a ha σ m hh
      have e : a = qn (xs X) := by omega
      rw [e] at hh
      exact ⟨σ, by rw [s215_9, m.1.1, e, if_neg nlt], hh, m, AgM.rf⟩
    | succ f ih =>
      intro a ha σ m hh
      obtain ⟨σ1, e1, h1, m1, g1⟩ := m_sayHouse (d := d + 2) hx (show a < qn (xs X) by omega) m
      obtain ⟨σ2, e2, h2, m2, g2⟩ := ih (a + 1) (by omega) σ1 m1 (by rw [h1, hh]; rfl)
      refine ⟨σ2, ?_, h2, m2, g1.tr g2⟩
      rw [s215_9, m.1.1, if_pos (ltn (show a < qn (xs X) by omega) (by omega))]
      simp only [s215_17, s215_22, e1, add1N, Option.bind_some, Option.toList_some, Option.toList_none, List.cons_append, List.nil_append, true_or, or_true, if_true, if_false, i10, i01, Bool.false_eq_true]
      exact e2
  have tail : ∀ (σ : St) (h : Int64) (x1 : Int32), MAt σ X → hs σ = h → ∃ σ', exec (d + 7) 215 39 [vR 7 0, vI x1] [] σ = some (some (vL (frd (cnt X) 20 (frd (fun k => nI (xp X k)) (xL X) h))), σ') ∧ MAt σ' X ∧ AgM σ σ' := by
    intro σ h x1 m hh
    have lp : ∀ f k, k + f = xL X → ∀ σ : St, MAt σ X → hs σ = frd (fun k => nI (xp X k)) k h → ∃ σ', exec (d + 7) 215 41 [vR 7 0, vI (nI k)] [] σ = exec (d + 7) 215 66 [vR 7 0, vI (nI (xL X))] [] σ' ∧ hs σ' = frd (fun k => nI (xp X k)) (xL X) h ∧ MAt σ' X ∧ AgM σ σ' := by
      intro f
      induction f with
      | zero =>
        intro k hk σ m hh
        have e : k = xL X := by omega
        rw [e] at hh
        exact ⟨σ, by rw [s215_41, m.2.2.2.1.1, e, if_neg nlt], hh, m, AgM.rf⟩
      | succ f ih =>
        intro k hk σ m hh
        have h38 := m.2.2.2.1.2.1
        have r30 := (m.2.2.2.1.2.2 k (by omega)).1
        have ik := oob_nI (show k < 38 by omega) (show 38 ≤ 1000 by omega)
        have ck := clN (show k ≤ 100000 by omega)
        obtain ⟨σ2, e2, h2, m2, g2⟩ := ih (k + 1) (by omega) (sh σ (mx (hs σ) (nI (xp X k)))) m.sh (by rw [hs_sh, hh]; rfl)
        refine ⟨σ2, ?_, h2, m2, AgM.sh.tr g2⟩
        rw [s215_41, m.2.2.2.1.1, if_pos (ltn (show k < xL X by omega) (by omega))]
        simp only [s215_49, s215_56, s215_60, ik, ck, r30, m_say, add1N, Option.bind_some, Option.toList_some, Option.toList_none, List.cons_append, List.nil_append, true_or, or_true, if_true, if_false, i10, i01, Bool.false_eq_true]
        exact e2
    have lc : ∀ f w, w + f = 20 → ∀ σ : St, MAt σ X → hs σ = frd (cnt X) w (frd (fun k => nI (xp X k)) (xL X) h) → ∃ σ', exec (d + 7) 215 68 [vR 7 0, vI (nI w)] [] σ = some (some (vL (frd (cnt X) 20 (frd (fun k => nI (xp X k)) (xL X) h))), σ') ∧ MAt σ' X ∧ AgM σ σ' := by
      intro f
      induction f with
      | zero =>
        intro w hw σ m hh
        have e : w = 20 := by omega
        subst e
        exact ⟨σ, by rw [s215_68, show (20 : Int32) = nI 20 from rfl, if_neg nlt, s215_90, hh], m, AgM.rf⟩
      | succ f ih =>
        intro w hw σ m hh
        have lt20 : nI w < 20 := by rw [show (20 : Int32) = nI 20 from rfl]; exact ltn (by omega) (by omega)
        obtain ⟨σ1, e1, g1⟩ := m_countOf (d := d + 3) hx m (show w < 20 by omega)
        have m1 := m.qm g1
        obtain ⟨σ2, e2, m2, g2⟩ := ih (w + 1) (by omega) (sh σ1 (mx (hs σ1) (cnt X w))) m1.sh (by rw [hs_sh, hs_ag g1, hh]; rfl)
        refine ⟨σ2, ?_, m2, ((AgM.qm g1).tr AgM.sh).tr g2⟩
        rw [s215_68, if_pos lt20]
        simp only [s215_74, s215_80, s215_84, e1, m_say, add1N, Option.bind_some, Option.toList_some, Option.toList_none, List.cons_append, List.nil_append, true_or, or_true, if_true, if_false, i10, i01, Bool.false_eq_true]
        exact e2
    obtain ⟨σ1, e1, h1, m1, g1⟩ := lp (xL X) 0 (by omega) σ m hh
    obtain ⟨σ2, e2, m2, g2⟩ := lc 20 0 rfl σ1 m1 h1
    refine ⟨σ2, ?_, m2, g1.tr g2⟩
    rw [s215_39]
    refine Eq.trans e1 ?_
    rw [s215_66]
    exact e2
  obtain ⟨σ1, e1, h1, m1, g1⟩ := loop1 (qn (xs X)) 0 (by omega) (sh σ 1093) m.sh hs_sh
  have e1' : exec (d + 7) 215 9 [vR 7 0, vI 0] [] (sh σ 1093) = exec (d + 7) 215 28 [vR 7 0, vI (nI (qn (xs X)))] [] σ1 := e1
  unfold dgd
  by_cases c : qn (xs X) = 0
  · have e2 := m_lacks_f (d := d + 6) m1.1.1 c
    obtain ⟨σ3, e3, m3, g3⟩ := tail σ1 _ (nI (qn (xs X))) m1 h1
    refine ⟨σ3, ?_, m3, (AgM.sh.tr g1).tr g3⟩
    rw [if_pos c, s215_e, s215_0, e1']
    simp only [s215_28, s215_32, e2, Option.bind_some, Option.toList_some, Option.toList_none, List.cons_append, List.nil_append, true_or, or_true, if_true, if_false, i10, i01, Bool.false_eq_true]
    exact e3
  · have e2 := m_lacks_t (d := d + 6) m1.1.1 h6 (show 0 < qn (xs X) by omega)
    obtain ⟨σ2, e4, h2, m2, g2⟩ := m_saySquare (d := d) hx (show 0 < qn (xs X) by omega) m1
    rw [h1] at h2
    obtain ⟨σ3, e3, m3, g3⟩ := tail σ2 _ (nI (qn (xs X))) m2 h2
    refine ⟨σ3, ?_, m3, ((AgM.sh.tr g1).tr g2).tr g3⟩
    rw [if_neg c, s215_e, s215_0, e1']
    simp only [s215_28, s215_32, s215_35, e2, e4, Option.bind_some, Option.toList_some, Option.toList_none, List.cons_append, List.nil_append, true_or, or_true, if_true, if_false, i10, i01, Bool.false_eq_true]
    exact e3
theorem op_digest (hw : Wf σ) (hc : CAt σ X) (hm : MAt σ X) (hx : WfX X) : StepL d 122 215 X σ := by
  obtain ⟨σ1, e1, g1⟩ := c_digest (d := d + 6) hw hx hc
  have m1 := hm.cb (CB.scr g1)
  obtain ⟨σ2, e2, m2, g2⟩ := m_digest (d := d + 5) hx m1
  exact ⟨dgd X, σ1, σ2, X, e1, e2, (hc.scr g1).fr (fun t q hq ht => g2.1 t q (by omega)), m2, hx, by omega, by rw [g1.2], by rw [g2.2, g1.2], call_wf e2 (call_wf e1 hw)⟩
end DM

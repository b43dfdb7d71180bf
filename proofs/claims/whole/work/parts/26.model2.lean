/-! The reference: mornings. -/
theorem pick_ext6 {n : Nat} {K K' W W' A A' : Nat → Int32} {a : Nat} (h6 : n ≤ 6) (ha : a < 6) (hK : ∀ a, a < 6 → K a = K' a) (hW : ∀ j, j < 36 → W j = W' j) (hA : ∀ j, j < 36 → A j = A' j) : pick n K W A a = pick n K' W' A' a := pick_ext (hK a ha) (fun b hb => hW _ (by omega)) (fun b hb => hA _ (by omega))
theorem chg_ext {K K' : Nat → Int32} {F F' : Nat → Option Nat} {a b : Nat} (hK : K a = K' a) (hFa : F a = F' a) (hFb : F b = F' b) : chg K F a b = chg K' F' a b := by
  unfold chg
  rw [hK, hFa, hFb]
theorem mor_ext {n : Nat} {K K' W W' A A' : Nat → Int32} (h6 : n ≤ 6) (hK : ∀ a, a < 6 → K a = K' a) (hW : ∀ j, j < 36 → W j = W' j) (hA : ∀ j, j < 36 → A j = A' j) : ∀ j, j < 36 → mor n K W A j = mor n K' W' A' j := by
  intro j hj
  unfold mor
  by_cases c : j / 6 < n ∧ j % 6 < n ∧ j / 6 ≠ j % 6
  · rw [if_pos c, if_pos c, hA j hj, chg_ext (hK _ (by omega)) (pick_ext6 h6 (by omega) hK hW hA) (pick_ext6 h6 (by omega) hK hW hA)]
  · rw [if_neg c, if_neg c, hA j hj]
theorem trn_ext {n : Nat} {K K' W W' A A' : Nat → Int32} (h6 : n ≤ 6) (hK : ∀ a, a < 6 → K a = K' a) (hW : ∀ j, j < 36 → W j = W' j) (hA : ∀ j, j < 36 → A j = A' j) : trn n K W A = trn n K' W' A' := by
  unfold trn
  refine cn_ext (fun a ha => ?_)
  rw [pick_ext6 h6 (by omega) hK hW hA, pick_ext6 h6 (show a < 6 by omega) hK hW (mor_ext h6 hK hW hA)]
/-- where angers can be at all -/
def ZA (n : Nat) (A : Nat → Int32) : Prop := ∀ j, j < 36 → ¬ (j / 6 < n ∧ j % 6 < n ∧ j / 6 ≠ j % 6) → A j = 0
theorem ZA_mor {n : Nat} {K W A : Nat → Int32} (h : ZA n A) : ZA n (mor n K W A) := fun j hj hn => by
  unfold mor
  rw [if_neg hn]
  exact h j hj hn
theorem ZA_morN {n : Nat} {K W : Nat → Int32} : ∀ (m : Nat) (A : Nat → Int32), ZA n A → ZA n (morN n K W m A)
  | 0, _, h => h
  | m + 1, _, h => ZA_morN m _ (ZA_mor h)
def Mr (σ : St) (n : Nat) (K W : Nat → Int32) : Prop := ar σ 7 0 3 = nI n ∧ (∀ a, a < 6 → ar σ 31 0 a = K a) ∧ (∀ j, j < 36 → ar σ 36 0 j = W j)
def Tb (σ : St) (t : Nat) (A : Nat → Int32) : Prop := ∀ j, j < 36 → ar σ t 0 j = A j
theorem Mr.ag {S : Nat → Nat → Prop} {σ σ' : St} {n : Nat} {K W : Nat → Int32} (h : Mr σ n K W) (hg : Ag S σ σ') (h7 : ¬ S 7 0) (h31 : ¬ S 31 0) (h36 : ¬ S 36 0) : Mr σ' n K W := ⟨by rw [hg.1 _ _ h7]; exact h.1, by rw [hg.1 _ _ h31]; exact h.2.1, by rw [hg.1 _ _ h36]; exact h.2.2⟩
theorem Tb.ag {S : Nat → Nat → Prop} {σ σ' : St} {t : Nat} {A : Nat → Int32} (h : Tb σ t A) (hg : Ag S σ σ') (ht : ¬ S t 0) : Tb σ' t A := fun j hj => by rw [hg.1 _ _ ht]; exact h j hj
theorem W01.of {W : Nat → Int32} {σ : St} (h : W01 W) (hw : ∀ j, j < 36 → ar σ 36 0 j = W j) : W01 (ar σ 36 0) := fun j hj => by rw [hw j hj]; exact h j hj
section MG
variable {d : Nat} {σ : St} {n : Nat} {K W A : Nat → Int32} {F : Nat → Option Nat}
theorem m_layFaces' {t : Nat} (ht : t = 35 ∨ t = 41) (h6 : n ≤ 6) (hW1 : W01 W) (h : Mr σ n K W) (hT : Tb σ t A) : ∃ σ', call (d + 1) 146 [vR 7 0, vR t 0] σ = some (none, σ') ∧ Fc σ' n (pick n K W A) ∧ Ag (fun t q => t = 37 ∧ q = 0) σ σ' := by
  obtain ⟨hn, hK, hW⟩ := h
  obtain ⟨σ', e, hF, g⟩ := m_layFaces (d := d) (σ := σ) (t := t) (q := 0) (n := n) (K := ar σ 31 0) (W := ar σ 36 0) (by omega) (by omega) (by rcases ht with rfl | rfl <;> rfl) h6 (hW1.of hW) ⟨hn, rfl, rfl⟩
  refine ⟨σ', e, fun a ha => ?_, g⟩
  rw [hF a ha]
  exact congrArg en (pick_ext6 h6 (by omega) hK hW hT)
theorem m_copy {t t' q q' : Nat} (ht : t < 60) (h0 : 0 < lenT t) (hl : lenT t = lenT t') (h1 : lenT t ≤ 1000) (hne : t ≠ t') : call d 132 [vR t q, vR t' q'] σ = some (none, sw σ t' q' (fun j => if j < lenT t then ar σ t q j else ar σ t' q' j)) := by
  rw [s132_e, s132_0]
  have key := down0 (Pr := fun b => exec d 132 2 [vR t q, vR t' q', vI (nI b)] [] (sw σ t' q' (fun j => if j < b then ar σ t q j else ar σ t' q' j)) = some (none, sw σ t' q' (fun j => if j < lenT t then ar σ t q j else ar σ t' q' j))) (lenT t) (fun b hb ih => ?_) ?_
  · have e0 : sw σ t' q' (fun j => if j < 0 then ar σ t q j else ar σ t' q' j) = σ := sw_id (by funext j; rw [if_neg (by omega)])
    have key : exec d 132 2 [vR t q, vR t' q', vI (nI 0)] [] (sw σ t' q' (fun j => if j < 0 then ar σ t q j else ar σ t' q' j)) = _ := key
    rw [e0] at key
    exact key
  · have e1 : upd (fun j => if j < b then ar σ t q j else ar σ t' q' j) b (ar σ t q b) = (fun j => if j < b + 1 then ar σ t q j else ar σ t' q' j) := by
      funext j
      rw [upd_if]
      by_cases hj : j = b
      · rw [if_pos hj, if_pos (by omega), hj]
      · rw [if_neg hj]
        by_cases hj2 : j < b
        · rw [if_pos hj2, if_pos (by omega)]
        · rw [if_neg hj2, if_neg (by omega)]
    rw [s132_2 ht h0, if_pos (ltn hb (by omega))]
    simp only [s132_8 ht, s132_13, s132_14, oob_nI hb h1, oob_nI (show b < lenT t' by omega) (by omega), clN (show b ≤ 100000 by omega), ar_sw_t hne, se_def, ar_sw_s, sw_sw, e1, add1N, Option.bind_some, Option.toList_some, Option.toList_none, List.cons_append, List.nil_append, true_or, or_true, if_true, if_false, i10, i01, Bool.false_eq_true]
    exact ih
  · rw [s132_2 ht h0, if_neg nlt, s132_20]
theorem m_moreOf {a b : Nat} (hn : ar σ 7 0 3 = nI n) (h6 : n ≤ 6) (hF : Fc σ n F) (hv : ∀ a b, F a = some b → b < n) (ha : a < n) (hb : b < n) : call (d + 1) 169 [vR 7 0, vI (nI a), vI (nI b)] σ = some (some (vI (chg (ar σ 31 0) F a b)), σ) := by
  have ia := oob_nI (show a < 6 by omega) (by decide)
  have ib := oob_nI (show b < 6 by omega) (by decide)
  have ja := cl6 (show a < 6 by omega)
  have jb := cl6 (show b < 6 by omega)
  have e2 := en_eq (o := F a) (a := b) (by omega) (fun c h => by have := hv _ _ h; omega)
  have e1 := en_eq (o := F b) (a := a) (by omega) (fun c h => by have := hv _ _ h; omega)
  have hfa := hF a ha
  have hfb := hF b hb
  have tail : ∀ (x3 x4 : Int32), exec (d + 1) 169 89 [vR 7 0, vI (nI a), vI (nI b), vI x3, vI x4] [] σ = some (some (vI (if F b = some a then x4 + 1 else x4)), σ) := by
    intro x3 x4
    by_cases c : F b = some a
    · rw [if_pos c]
      simp only [s169_89, s169_95, s169_99, s169_108, ib, jb, hfb, e1.trans (eq_true c), Option.bind_some, Option.toList_some, Option.toList_none, List.cons_append, List.nil_append, true_or, or_true, if_true, if_false, i10, i01, Bool.false_eq_true]
    · rw [if_neg c]
      simp only [s169_89, s169_95, s169_106, s169_108, ib, jb, hfb, e1.trans (eq_false c), Option.bind_some, Option.toList_some, Option.toList_none, List.cons_append, List.nil_append, true_or, or_true, if_true, if_false, i10, i01, Bool.false_eq_true]
  unfold chg
  by_cases c1 : F a = some b
  · have head : exec (d + 1) 169 0 [vR 7 0, vI (nI a), vI (nI b), vN, vN] [] σ = exec (d + 1) 169 33 [vR 7 0, vI (nI a), vI (nI b), vI 1, vI 0] [vI (ar σ 31 0 a)] σ := by
      simp only [s169_0, s169_6, s169_10, s169_15, s169_20, s169_25, ia, ja, hfa, e2.trans (eq_true c1), Option.bind_some, Option.toList_some, Option.toList_none, List.cons_append, List.nil_append, true_or, or_true, if_true, if_false, i10, i01, Bool.false_eq_true]
    rw [s169_e, head]
    by_cases c2 : ar σ 31 0 a = 2
    · simp only [s169_33, s169_37, c2, Option.bind_some, Option.toList_some, Option.toList_none, List.cons_append, List.nil_append, true_or, or_true, if_true, if_false, i10, i01, Bool.false_eq_true]
    · rw [if_neg c2, if_pos c1]
      by_cases c3 : ar σ 31 0 a = 1
      · have n4 : ¬ ar σ 31 0 a = 4 := by rw [c3]; decide
        have hg : ∀ s : Prop, ∀ [Decidable s], grw (ar σ 31 0 a) s = 1 := fun s _ => by unfold grw; rw [if_pos c3]
        rw [hg]
        have e3 : exec (d + 1) 169 33 [vR 7 0, vI (nI a), vI (nI b), vI 1, vI 0] [vI (ar σ 31 0 a)] σ = exec (d + 1) 169 89 [vR 7 0, vI (nI a), vI (nI b), vI 1, vI 1] [] σ := by
          simp only [s169_33, s169_40, s169_44, s169_50, s169_64, s169_70, s169_86, s169_87, eq_false c2, eq_true c3, eq_false n4, ia, ja, Option.bind_some, Option.toList_some, Option.toList_none, List.cons_append, List.nil_append, true_or, or_true, if_true, if_false, i10, i01, Bool.false_eq_true]
        rw [e3, tail]
        by_cases c : F b = some a
        · rw [if_pos c, if_pos c]
        · rw [if_neg c, if_neg c]; rfl
      · by_cases c4 : ar σ 31 0 a = 4
        · have hs := m_stares (d := d) h6 hF hv ha
          have hst : star F a = decide (F b = some a) := by unfold star; rw [c1]
          rw [hst] at hs
          by_cases c : F b = some a
          · have hg : grw (ar σ 31 0 a) (F b = some a) = 2 := by unfold grw; rw [if_neg c3, if_pos c4, if_pos c]
            rw [decide_eq_true c, if_pos rfl] at hs
            rw [hg]
            have e3 : exec (d + 1) 169 33 [vR 7 0, vI (nI a), vI (nI b), vI 1, vI 0] [vI (ar σ 31 0 a)] σ = exec (d + 1) 169 89 [vR 7 0, vI (nI a), vI (nI b), vI 1, vI 2] [] σ := by
              simp only [s169_33, s169_40, s169_44, s169_50, s169_54, s169_60, s169_64, s169_70, s169_74, s169_79, s169_82, s169_87, eq_false c2, eq_false c3, eq_true c4, ia, ja, hs, Option.bind_some, Option.toList_some, Option.toList_none, List.cons_append, List.nil_append, true_or, or_true, if_true, if_false, i10, i01, Bool.false_eq_true]
            rw [e3, tail, if_pos c, if_pos c]
            rfl
          · have hg : grw (ar σ 31 0 a) (F b = some a) = 1 := by unfold grw; rw [if_neg c3, if_pos c4, if_neg c]
            rw [decide_eq_false c, if_neg Bool.false_ne_true] at hs
            rw [hg]
            have e3 : exec (d + 1) 169 33 [vR 7 0, vI (nI a), vI (nI b), vI 1, vI 0] [vI (ar σ 31 0 a)] σ = exec (d + 1) 169 89 [vR 7 0, vI (nI a), vI (nI b), vI 1, vI 1] [] σ := by
              simp only [s169_33, s169_40, s169_44, s169_50, s169_54, s169_60, s169_64, s169_70, s169_74, s169_79, s169_86, s169_87, eq_false c2, eq_false c3, eq_true c4, ia, ja, hs, Option.bind_some, Option.toList_some, Option.toList_none, List.cons_append, List.nil_append, true_or, or_true, if_true, if_false, i10, i01, Bool.false_eq_true]
            rw [e3, tail, if_neg c, if_neg c]
            rfl
        · have hg : ∀ s : Prop, ∀ [Decidable s], grw (ar σ 31 0 a) s = 0 := fun s _ => by unfold grw; rw [if_neg c3, if_neg c4]
          rw [hg]
          have e3 : exec (d + 1) 169 33 [vR 7 0, vI (nI a), vI (nI b), vI 1, vI 0] [vI (ar σ 31 0 a)] σ = exec (d + 1) 169 89 [vR 7 0, vI (nI a), vI (nI b), vI 1, vI 0] [] σ := by
            simp only [s169_33, s169_40, s169_44, s169_50, s169_54, s169_60, eq_false c2, eq_false c3, eq_false c4, ia, ja, Option.bind_some, Option.toList_some, Option.toList_none, List.cons_append, List.nil_append, true_or, or_true, if_true, if_false, i10, i01, Bool.false_eq_true]
          rw [e3, tail]
          by_cases c : F b = some a
          · rw [if_pos c, if_pos c]; rfl
          · rw [if_neg c, if_neg c]; rfl
  · have head : exec (d + 1) 169 0 [vR 7 0, vI (nI a), vI (nI b), vN, vN] [] σ = exec (d + 1) 169 33 [vR 7 0, vI (nI a), vI (nI b), vI 0, vI (-1)] [vI (ar σ 31 0 a)] σ := by
      simp only [s169_0, s169_6, s169_14, s169_15, s169_24, s169_25, ia, ja, hfa, e2.trans (eq_false c1), Option.bind_some, Option.toList_some, Option.toList_none, List.cons_append, List.nil_append, true_or, or_true, if_true, if_false, i10, i01, Bool.false_eq_true]
    rw [s169_e, head]
    by_cases c2 : ar σ 31 0 a = 2
    · simp only [s169_33, s169_37, c2, Option.bind_some, Option.toList_some, Option.toList_none, List.cons_append, List.nil_append, true_or, or_true, if_true, if_false, i10, i01, Bool.false_eq_true]
    · rw [if_neg c2, if_neg c1]
      have e3 : exec (d + 1) 169 33 [vR 7 0, vI (nI a), vI (nI b), vI 0, vI (-1)] [vI (ar σ 31 0 a)] σ = exec (d + 1) 169 89 [vR 7 0, vI (nI a), vI (nI b), vI 0, vI (-1)] [] σ := by
        simp only [s169_33, s169_40, eq_false c2, Option.bind_some, Option.toList_some, Option.toList_none, List.cons_append, List.nil_append, true_or, or_true, if_true, if_false, i10, i01, Bool.false_eq_true]
      rw [e3, tail]
      by_cases c : F b = some a
      · rw [if_pos c, if_pos c]; rfl
      · rw [if_neg c, if_neg c]; rfl
def GM (t : Nat) : Nat → Nat → Prop := fun x q => q = 0 ∧ (x = t ∨ x = 37 ∨ x = 39 ∨ x = 40)
theorem l_goRow {t a : Nat} (ht : t = 35 ∨ t = 41) (h6 : n ≤ 6) (hn : ar σ 7 0 3 = nI n) (hF : Fc σ n F) (hv : ∀ a b, F a = some b → b < n) (hK : ar σ 31 0 = K) (hA : ar σ t 0 = A) (h40 : ∀ j, j < 36 → ar σ 40 0 j = A j) (hz : ZA n A) (ha : a < n) :
    exec (d + 2) 170 36 [vR 7 0, vR t 0, vI (nI a), vI (nI 0)] [] (sw σ t 0 (mp2 n K F A a 0)) = exec (d + 2) 170 26 [vR 7 0, vR t 0, vI (nI (a + 1)), vI (nI n)] [] (sw σ t 0 (mp2 n K F A (a + 1) 0)) := by
  have ht7 : 7 ≠ t := by omega
  have ht31 : 31 ≠ t := by omega
  have ht37 : 37 ≠ t := by omega
  have ht40 : 40 ≠ t := by omega
  have hl : lenT t = 36 := by rcases ht with rfl | rfl <;> rfl
  refine down0 (Pr := fun b => exec (d + 2) 170 36 [vR 7 0, vR t 0, vI (nI a), vI (nI b)] [] (sw σ t 0 (mp2 n K F A a b)) = exec (d + 2) 170 26 [vR 7 0, vR t 0, vI (nI (a + 1)), vI (nI n)] [] (sw σ t 0 (mp2 n K F A (a + 1) 0))) n (fun b hb ih => ?_) ?_
  · have i1 : oob (nI (6 * a + b)) 36 = false := oob_nI (by omega) (by omega)
    have j1 : (nI (6 * a + b)).toNatClampNeg = 6 * a + b := clN (by omega)
    rw [s170_36, ar_sw_t ht7, hn, if_pos (ltn hb (by omega))]
    by_cases hab : a = b
    · subst hab
      have e1 : upd (mp2 n K F A a a) (6 * a + a) 0 = mp2 n K F A a (a + 1) := by
        rw [mp2_skip]
        funext j
        rw [upd_if]
        by_cases hj : j = 6 * a + a
        · rw [if_pos hj, hj, mp2_at (by omega), hz _ (by omega) (by omega)]
        · rw [if_neg hj]
      simp only [s170_44, s170_56, s170_81, s170_82, mul6N', addN, hl, i1, j1, se_def, ar_sw_s, sw_sw, e1, add1N, Option.bind_some, Option.toList_some, Option.toList_none, List.cons_append, List.nil_append, true_or, or_true, if_true, if_false, i10, i01, Bool.false_eq_true]
      exact ih
    · have e1 : ¬ nI a = nI b := by rw [eqN (by omega) (by omega)]; exact hab
      have hc := m_moreOf (d := d) (σ := sw σ t 0 (mp2 n K F A a b)) (n := n) (F := F) (a := a) (b := b) (by rw [ar_sw_t ht7]; exact hn) h6 (fun x hx => by rw [ar_sw_t ht37]; exact hF x hx) hv ha hb
      rw [ar_sw_t ht31, hK] at hc
      rw [← mp2_step h6 hb hab] at ih
      simp only [s170_44, s170_60, s170_71, s170_77, s170_81, s170_82, e1, mul6N', addN, hl, i1, j1, ar_sw_t ht40, h40 _ (show 6 * a + b < 36 by omega), hc, m_topped, se_def, ar_sw_s, sw_sw, add1N, Option.bind_some, Option.toList_some, Option.toList_none, List.cons_append, List.nil_append, true_or, or_true, if_true, if_false, i10, i01, Bool.false_eq_true]
      exact ih
  · rw [s170_36, ar_sw_t ht7, hn, if_neg nlt, s170_88, add1N, mp2_row h6]
theorem m_goMorning0 {t : Nat} (ht : t = 35 ∨ t = 41) (h6 : n ≤ 6) (hW1 : W01 W) (h : Mn σ n K W) (hA : ar σ t 0 = A) (hz : ZA n A) : ∃ σ', call (d + 2) 170 [vR 7 0, vR t 0] σ = some (some (vI (nI (trn n K W A))), σ') ∧ ar σ' t 0 = mor n K W A ∧ Fc σ' n (pick n K W (mor n K W A)) ∧ Ag (GM t) σ σ' := by
  have h36 : lenT t = 36 := by rcases ht with rfl | rfl <;> rfl
  have hv : ∀ (A : Nat → Int32) a b, pick n K W A a = some b → b < n := fun A a b h => pick_lt h
  obtain ⟨σ1, e1, F1, g1⟩ := m_layFaces (d := d) (t := t) (q := 0) (by omega) (by omega) h36 h6 hW1 h
  rw [hA] at F1
  have e2 := m_copy (d := d + 1) (σ := σ1) (t := 37) (t' := 39) (q := 0) (q' := 0) (by decide) (by decide) (by decide) (by decide) (by decide)
  obtain ⟨σ2, hσ2⟩ : ∃ x, x = sw σ1 39 0 (fun j => if j < lenT 37 then ar σ1 37 0 j else ar σ1 39 0 j) := ⟨_, rfl⟩
  rw [← hσ2] at e2
  have e3 := m_copy (d := d + 1) (σ := σ2) (t := t) (t' := 40) (q := 0) (q' := 0) (by omega) (by omega) (by rw [h36]; rfl) (by omega) (by omega)
  obtain ⟨σ3, hσ3⟩ : ∃ x, x = sw σ2 40 0 (fun j => if j < lenT t then ar σ2 t 0 j else ar σ2 40 0 j) := ⟨_, rfl⟩
  rw [← hσ3] at e3
  have g3 : Ag (fun x q => q = 0 ∧ (x = 37 ∨ x = 39 ∨ x = 40)) σ σ3 := by
    rw [hσ3, hσ2]
    exact ((g1.mono (fun x q z => ⟨z.2, Or.inl z.1⟩)).tr (Ag.sw ⟨rfl, by omega⟩)).tr (Ag.sw ⟨rfl, by omega⟩)
  have hn3 : Mn σ3 n K W := h.ag g3 (by omega) (by omega) (by omega)
  have hA3 : ar σ3 t 0 = A := by rw [g3.1 _ _ (by omega)]; exact hA
  have hF3 : Fc σ3 n (pick n K W A) := fun a ha => by
    rw [hσ3, ar_sw_t (by decide), hσ2, ar_sw_t (by decide)]; exact F1 a ha
  have h39 : ∀ a, a < n → ar σ3 39 0 a = en (pick n K W A a) := fun a ha => by
    rw [hσ3, ar_sw_t (by decide), hσ2, ar_sw_s, if_pos (show a < lenT 37 by show a < 6; omega)]; exact F1 a ha
  have h40 : ∀ j, j < 36 → ar σ3 40 0 j = A j := fun j hj => by
    rw [hσ3, ar_sw_s, if_pos (by omega), hσ2, ar_sw_t (by omega), g1.1 _ _ (by omega), hA]
  have ht7 : 7 ≠ t := by omega
  have key := down0 (Pr := fun a => ∀ v3 : IV, ∃ v3' : IV, exec (d + 2) 170 26 [vR 7 0, vR t 0, vI (nI a), v3] [] (sw σ3 t 0 (mp2 n K (pick n K W A) A a 0)) = exec (d + 2) 170 94 [vR 7 0, vR t 0, vI (nI n), v3'] [] (sw σ3 t 0 (mor n K W A))) n (fun a ha ih v3 => ?_) (fun v3 => ?_)
  · obtain ⟨v3', key⟩ := key vN
    have e0 : sw σ3 t 0 (mp2 n K (pick n K W A) A 0 0) = σ3 := sw_id (by rw [mp2_0]; exact hA3.symm)
    rw [e0] at key
    obtain ⟨σ4, hσ4⟩ : ∃ x, x = sw σ3 t 0 (mor n K W A) := ⟨_, rfl⟩
    rw [← hσ4] at key
    have g4 : Ag (GM t) σ σ4 := by
      rw [hσ4]
      exact (g3.mono (fun x q z => ⟨z.1, by omega⟩)).tr (Ag.sw ⟨rfl, Or.inl rfl⟩)
    have hn4 : Mn σ4 n K W := h.ag g4 (by unfold GM; omega) (by unfold GM; omega) (by unfold GM; omega)
    have hA4 : ar σ4 t 0 = mor n K W A := by rw [hσ4, ar_sw_s]
    obtain ⟨σ5, e5, F5, g5⟩ := m_layFaces (d := d) (t := t) (q := 0) (by omega) (by omega) h36 h6 hW1 hn4
    rw [hA4] at F5
    have h39' : ∀ a, a < n → ar σ5 39 0 a = en (pick n K W A a) := fun a ha => by
      rw [g5.1 _ _ (by omega), hσ4, ar_sw_t (by omega)]; exact h39 a ha
    have hn5 : ar σ5 7 0 3 = nI n := by rw [g5.1 _ _ (by omega)]; exact hn4.1
    have cnt := down0 (Pr := fun a => exec (d + 2) 170 103 [vR 7 0, vR t 0, vI (nI (cn (fun a => !decide (pick n K W (mor n K W A) a = pick n K W A a)) a)), vI (nI a)] [] σ5 = some (some (vI (nI (trn n K W A))), σ5)) n (fun a ha ih => ?_) ?_
    · have cnt : exec (d + 2) 170 103 [vR 7 0, vR t 0, vI (nI 0), vI (nI 0)] [] σ5 = some (some (vI (nI (trn n K W A))), σ5) := cnt
      refine ⟨σ5, ?_, by rw [g5.1 _ _ (by omega)]; exact hA4, F5, g4.tr (g5.mono (fun x q z => ⟨z.2, by omega⟩))⟩
      rw [s170_e]
      simp only [s170_0, s170_5, s170_16, s170_24, e1, e2, e3, Option.bind_some, Option.toList_some, Option.toList_none, List.cons_append, List.nil_append, true_or, or_true, if_true, if_false, i10, i01, Bool.false_eq_true]
      refine key.trans ?_
      simp only [s170_94, s170_99, e5, Option.bind_some, Option.toList_some, Option.toList_none, List.cons_append, List.nil_append, true_or, or_true, if_true, if_false, i10, i01, Bool.false_eq_true]
      exact cnt
    · have f5 := F5 a ha
      have f39 := h39' a ha
      have ein := en_inj (o := pick n K W (mor n K W A) a) (o' := pick n K W A a) (fun b hb => by have := pick_lt hb; omega) (fun b hb => by have := pick_lt hb; omega)
      rw [s170_103, hn5, if_pos (ltn ha (by omega))]
      by_cases c : pick n K W (mor n K W A) a = pick n K W A a
      · rw [cn, if_neg (by simp [c])] at ih
        simp only [s170_111, s170_118, s170_124, s170_127, s170_132, oob_nI (show a < 6 by omega) (by decide), cl6 (show a < 6 by omega), f5, f39, ein.trans (eq_true c), Int32.add_zero, add1N, Option.bind_some, Option.toList_some, Option.toList_none, List.cons_append, List.nil_append, true_or, or_true, if_true, if_false, i10, i01, Bool.false_eq_true]
        exact ih
      · rw [cn, if_pos (by simp [c])] at ih
        simp only [s170_111, s170_118, s170_124, s170_131, s170_132, oob_nI (show a < 6 by omega) (by decide), cl6 (show a < 6 by omega), f5, f39, ein.trans (eq_false c), add1N, Option.bind_some, Option.toList_some, Option.toList_none, List.cons_append, List.nil_append, true_or, or_true, if_true, if_false, i10, i01, Bool.false_eq_true]
        exact ih
    · rw [s170_103, hn5, if_neg nlt, s170_140]
      rfl
  · obtain ⟨v3', ih⟩ := ih (vI (nI n))
    refine ⟨v3', ?_⟩
    rw [s170_26, ar_sw_t ht7, hn3.1, if_pos (ltn ha (by omega)), s170_34]
    have := l_goRow (d := d) (σ := σ3) (K := K) (F := pick n K W A) ht h6 hn3.1 hF3 (hv A) hn3.2.1 hA3 h40 hz ha
    refine Eq.trans ?_ (this.trans ih)
    rfl
  · refine ⟨v3, ?_⟩
    rw [s170_26, ar_sw_t ht7, hn3.1, if_neg nlt, mp2_n]
theorem m_goMorning {t : Nat} (ht : t = 35 ∨ t = 41) (h6 : n ≤ 6) (hW1 : W01 W) (h : Mr σ n K W) (hT : Tb σ t A) (hz : ZA n A) : ∃ σ', call (d + 2) 170 [vR 7 0, vR t 0] σ = some (some (vI (nI (trn n K W A))), σ') ∧ Tb σ' t (mor n K W A) ∧ Fc σ' n (pick n K W (mor n K W A)) ∧ Ag (GM t) σ σ' := by
  obtain ⟨hn, hK, hW⟩ := h
  obtain ⟨σ', e, h1, h2, g⟩ := m_goMorning0 (d := d) (σ := σ) (n := n) (K := ar σ 31 0) (W := ar σ 36 0) (A := ar σ t 0) ht h6 (hW1.of hW) ⟨hn, rfl, rfl⟩ rfl (fun j hj hc => by rw [hT j hj]; exact hz j hj hc)
  refine ⟨σ', ?_, fun j hj => ?_, fun a ha => ?_, g⟩
  · rw [e, trn_ext h6 hK hW hT]
  · rw [h1]; exact mor_ext h6 hK hW hT j hj
  · rw [h2 a ha, pick_ext6 h6 (by omega) hK hW (mor_ext h6 hK hW hT)]
theorem Mr.gm {t : Nat} {σ' : St} (ht : t = 35 ∨ t = 41) (h : Mr σ n K W) (g : Ag (GM t) σ σ') : Mr σ' n K W := h.ag g (by unfold GM; omega) (by unfold GM; omega) (by unfold GM; omega)
theorem m_goMornings {t m : Nat} (ht : t = 35 ∨ t = 41) (h6 : n ≤ 6) (hm : m ≤ 1000) (hW1 : W01 W) : ∀ (σ : St) (A : Nat → Int32), Mr σ n K W → Tb σ t A → ZA n A → ∃ σ', call (d + 3) 171 [vR 7 0, vR t 0, vI (nI m)] σ = some (none, σ') ∧ Tb σ' t (morN n K W m A) ∧ Fc σ' n (pick n K W (morN n K W m A)) ∧ Ag (GM t) σ σ' := by
  have key : ∀ r i, i + r = m → ∀ (σ : St) (A : Nat → Int32), Mr σ n K W → Tb σ t A → ZA n A → ∃ σ', exec (d + 3) 171 2 [vR 7 0, vR t 0, vI (nI m), vI (nI i)] [] σ = some (none, σ') ∧ Tb σ' t (morN n K W r A) ∧ Fc σ' n (pick n K W (morN n K W r A)) ∧ Ag (GM t) σ σ' := by
    intro r
    induction r with
    | zero =>
      intro i hi σ A h hT hz
      have e : i = m := by omega
      subst e
      obtain ⟨σ', e, F, g⟩ := m_layFaces' (d := d + 1) ht h6 hW1 h hT
      refine ⟨σ', ?_, hT.ag g (by omega), F, g.mono (fun x q z => ⟨z.2, by omega⟩)⟩
      rw [s171_2, if_neg nlt]
      simp only [s171_19, s171_24, e, Option.bind_some, Option.toList_some, Option.toList_none, List.cons_append, List.nil_append, true_or, or_true, if_true, if_false, i10, i01, Bool.false_eq_true]
    | succ r ih =>
      intro i hi σ A h hT hz
      obtain ⟨σ1, e1, T1, F1, g1⟩ := m_goMorning (d := d) ht h6 hW1 h hT hz
      obtain ⟨σ2, e2, T2, F2, g2⟩ := ih (i + 1) (by omega) σ1 (mor n K W A) (h.gm ht g1) T1 (ZA_mor hz)
      refine ⟨σ2, ?_, T2, F2, g1.tr g2⟩
      rw [s171_2, if_pos (ltn (show i < m by omega) (by omega))]
      simp only [s171_7, s171_12, e1, add1N, Option.bind_some, Option.toList_some, Option.toList_none, List.cons_append, List.nil_append, true_or, or_true, if_true, if_false, i10, i01, Bool.false_eq_true]
      exact e2
  intro σ A h hT hz
  obtain ⟨σ', e, T, F, g⟩ := key m 0 (by omega) σ A h hT hz
  exact ⟨σ', by rw [s171_e, s171_0]; exact e, T, F, g⟩
/-- the angers laid onto the table of what would be -/
theorem m_toWork (hT : Tb σ 35 A) : ∃ σ', call d 132 [vR 35 0, vR 41 0] σ = some (none, σ') ∧ Tb σ' 41 A ∧ Ag (fun x q => x = 41 ∧ q = 0) σ σ' := by
  refine ⟨_, m_copy (by decide) (by decide) (by decide) (by decide) (by decide), fun j hj => ?_, Ag.sw ⟨rfl, rfl⟩⟩
  rw [ar_sw_s, if_pos (show j < lenT 35 from hj)]
  exact hT j hj
end MG

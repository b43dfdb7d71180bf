/-! The reference: who calms. -/
section CC
variable {d : Nat} {σ : St} {n : Nat} {K W A : Nat → Int32}
theorem l_layRow {m B few : Nat} (h6 : n ≤ 6) (hm : m ≤ 1000) (hB : B < 64) (hW1 : W01 W) (hz : ZA n A) (hf : few ≤ 3) : ∀ (w : Nat) (row : List Nat) (σ : St), wtr (Pn n) row < w → row.length = few → Vr (Pn n) 0 row → Mr σ n K W → Tb σ 35 A → RowAt σ 43 row →
    ∃ σ', Ag QM σ σ' ∧ match rs n (Cm n K W m B) row A with
      | some l => ∃ rw : List Nat, exec (d + 5) 180 46 [vR 7 0, vI (nI B), vI (nI m), vI (nI few), vI 1] [] σ = some (some (vI (nI few)), σ') ∧ l = rw.map (prn n) ∧ rw.length = few ∧ RowAt σ' 42 rw ∧ ∀ x ∈ rw, x < Pn n
      | none => exec (d + 5) 180 46 [vR 7 0, vI (nI B), vI (nI m), vI (nI few), vI 1] [] σ = exec (d + 5) 180 92 [vR 7 0, vI (nI B), vI (nI m), vI (nI few), vI 0] [] σ' := by
  have hP := Pn_le n h6
  intro w
  induction w with
  | zero => intro row σ hw; omega
  | succ w ih =>
    intro row σ hw hlen hv h hT hrow
    obtain ⟨σ1, e1, g1⟩ := m_isCalm (d := d) (K := K) (W := W) (m := m) (B := B) h6 hm hB hW1 hz h hT (by omega) hrow hv.lt
    rw [hlen] at e1
    rw [rs_nxt h6]
    by_cases c : Cm n K W m B (apl A (row.map (prn n))) = true
    · rw [if_pos c] at e1 ⊢
      have e2 := m_copy (d := d + 4) (σ := σ1) (t := 43) (t' := 42) (q := 0) (q' := 0) (by decide) (by decide) (by decide) (by decide) (by decide)
      refine ⟨sw σ1 42 0 (fun j => if j < lenT 43 then ar σ1 43 0 j else ar σ1 42 0 j), g1.gq.tr (Ag.sw (by unfold QM; omega)), row, ?_, rfl, hlen, fun k x hk => ?_, hv.lt⟩
      · simp only [s180_46, s180_51, s180_62, s180_65, s180_76, e1, e2, Option.bind_some, Option.toList_some, Option.toList_none, List.cons_append, List.nil_append, true_or, or_true, if_true, if_false, i10, i01, Bool.false_eq_true]
      · have hk3 : k < 3 := by
          have := (List.getElem?_eq_some_iff.mp hk).1
          omega
        rw [ar_sw_s, if_pos (show k < lenT 43 from hk3), g1.1 _ _ (by unfold GM; omega)]
        exact hrow k x hk
    · rw [if_neg c] at e1 ⊢
      have h1 := h.gm (Or.inr rfl) g1
      have hrow1 := hrow.ag g1 (by unfold GM; omega)
      have e2 := m_pairsMany (d := d + 4) h1.1 h6
      obtain ⟨σ2, e3, r2, g2⟩ := m_nextRow (d := d + 4) (σ := σ1) hP (show row.length ≤ 3 by omega) hv hrow1
      rw [hlen] at e3
      have g12 : Ag QM σ σ2 := g1.gq.tr (g2.mono (fun x q z => by unfold QM; omega))
      have h2 := h.qm g12
      cases hn : nxt (Pn n) row with
      | some row' =>
        rw [hn] at e3
        obtain ⟨σ3, g3, res⟩ := ih row' σ2 (by have := wtr_nxt hn; omega) (by rw [nxt_len hn]; exact hlen) (Vr_nxt hv hn) h2 (hT.qm g12) (r2 row' hn)
        refine ⟨σ3, g12.tr g3, ?_⟩
        have st : exec (d + 5) 180 46 [vR 7 0, vI (nI B), vI (nI m), vI (nI few), vI 1] [] σ = exec (d + 5) 180 46 [vR 7 0, vI (nI B), vI (nI m), vI (nI few), vI 1] [] σ2 := by
          rw [s180_46]
          simp only [s180_51, s180_62, s180_78, s180_84, s180_87, e1, e2, e3, Option.bind_some, Option.toList_some, Option.toList_none, List.cons_append, List.nil_append, true_or, or_true, if_true, if_false, i10, i01, Bool.false_eq_true, Option.isSome_some]
        dsimp only
        rw [st]
        exact res
      | none =>
        rw [hn] at e3
        refine ⟨σ2, g12, ?_⟩
        dsimp only
        rw [s180_46]
        simp only [s180_51, s180_62, s180_78, s180_84, s180_87, e1, e2, e3, Option.bind_some, Option.toList_some, Option.toList_none, List.cons_append, List.nil_append, true_or, or_true, if_true, if_false, i10, i01, Bool.false_eq_true, Option.isSome_none]
        rw [s180_46, if_pos rfl]
theorem Pn_ge : ∀ n, n ≤ 6 → 3 ≤ n → 3 ≤ Pn n := by decide
theorem m_layCalm {m B : Nat} (h6 : n ≤ 6) (h3 : 3 ≤ n) (hm : m ≤ 1000) (hB : B < 64) (hW1 : W01 W) (hz : ZA n A) (h : Mr σ n K W) (hT : Tb σ 35 A) :
    ∃ σ', Ag QM σ σ' ∧ call (d + 5) 180 [vR 7 0, vI (nI B), vI (nI m)] σ = some (some (vI (clR (mlm n (Cm n K W m B) A 4 0))), σ') ∧ ∀ r l, mlm n (Cm n K W m B) A 4 0 = some (r, l) → ∃ rw : List Nat, l = rw.map (prn n) ∧ rw.length = r ∧ r ≤ 3 ∧ RowAt σ' 42 rw ∧ ∀ x ∈ rw, x < Pn n := by
  have hPg := Pn_ge n h6 h3
  have hP := Pn_le n h6
  have l03 : (0 : Int32) < 3 := by decide
  have l13 : (1 : Int32) < 3 := by decide
  have l23 : (2 : Int32) < 3 := by decide
  have l33 : ¬ (3 : Int32) < 3 := by decide
  have i0 : ¬ oob 0 3 = true := by decide
  have i1 : ¬ oob 1 3 = true := by decide
  have i2 : ¬ oob 2 3 = true := by decide
  have p0 : (0 : Int32) + 1 = 1 := by decide
  have p1 : (1 : Int32) + 1 = 2 := by decide
  have p2 : (2 : Int32) + 1 = 3 := by decide
  have key : ∀ f r, r + f = 4 → ∀ (σ : St) (v4 : IV), Mr σ n K W → Tb σ 35 A → ∃ σ', Ag QM σ σ' ∧ exec (d + 5) 180 2 [vR 7 0, vI (nI B), vI (nI m), vI (nI r), v4] [] σ = some (some (vI (clR (mlm n (Cm n K W m B) A f r))), σ') ∧ ∀ r' l, mlm n (Cm n K W m B) A f r = some (r', l) → ∃ rw : List Nat, l = rw.map (prn n) ∧ rw.length = r' ∧ r' ≤ 3 ∧ RowAt σ' 42 rw ∧ ∀ x ∈ rw, x < Pn n := by
    intro f
    induction f with
    | zero =>
      intro r hr σ v4 h hT
      have e : r = 4 := by omega
      subst e
      exact ⟨σ, Ag.rf, by rw [s180_2, show (4 : Int32) = nI 4 from rfl, if_neg nlt, s180_98]; rfl, fun r' l h => (by cases h)⟩
    | succ f ih =>
      intro r hr σ v4 h hT
      obtain ⟨σ1, hσ1⟩ : ∃ x, x = se (se (se σ 43 0 0 0) 43 0 1 1) 43 0 2 2 := ⟨_, rfl⟩
      have g1 : Ag QM σ σ1 := by
        rw [hσ1]
        exact ((Ag.sw (by unfold QM; omega)).tr (Ag.sw (by unfold QM; omega))).tr (Ag.sw (by unfold QM; omega))
      have row1 : RowAt σ1 43 (List.range' 0 r) := by
        intro k x hk
        have hk3 := (List.getElem?_eq_some_iff.mp hk).1
        rw [List.length_range'] at hk3
        rw [List.getElem?_range' hk3] at hk
        have hx : x = k := by
          have := Option.some.inj hk
          omega
        subst hx
        have : x = 0 ∨ x = 1 ∨ x = 2 := by omega
        rw [hσ1]
        rcases this with rfl | rfl | rfl
        · simp only [ar_sw_t, ar_sw_s, se_def, sw_sw, ne_eq, not_false_eq_true, Nat.reduceEqDiff, upd_n, upd_s]; rfl
        · simp only [ar_sw_t, ar_sw_s, se_def, sw_sw, ne_eq, not_false_eq_true, Nat.reduceEqDiff, upd_n, upd_s]; rfl
        · simp only [ar_sw_t, ar_sw_s, se_def, sw_sw, ne_eq, not_false_eq_true, Nat.reduceEqDiff, upd_s]; rfl
      have h1 := h.qm g1
      have e1 := m_pairsMany (d := d + 4) h1.1 h6
      have lt4 : nI r < 4 := by rw [show (4 : Int32) = nI 4 from rfl]; exact ltn (by omega) (by omega)
      have ltp : ¬ nI (Pn n) < nI r := by rw [ltN (by omega) (by omega)]; omega
      have c0 : (0 : Int32).toNatClampNeg = 0 := by decide
      have c1 : (1 : Int32).toNatClampNeg = 1 := by decide
      have c2 : (2 : Int32).toNatClampNeg = 2 := by decide
      have st : exec (d + 5) 180 2 [vR 7 0, vI (nI B), vI (nI m), vI (nI r), v4] [] σ = exec (d + 5) 180 46 [vR 7 0, vI (nI B), vI (nI m), vI (nI r), vI 1] [] σ1 := by
        rw [s180_2, if_pos lt4, s180_7, s180_10, if_pos l03, s180_16, if_neg i0, s180_25, p0, s180_10, if_pos l13, s180_16, if_neg i1, s180_25, p1, s180_10, if_pos l23, s180_16, if_neg i2, s180_25, p2, s180_10, if_neg l33, c0, c1, c2, ← hσ1]
        simp only [s180_31, s180_36, s180_39, s180_44, e1, ltp, Option.bind_some, Option.toList_some, Option.toList_none, List.cons_append, List.nil_append, true_or, or_true, if_true, if_false, i10, i01, Bool.false_eq_true]
      obtain ⟨σ2, g2, res⟩ := l_layRow (d := d) (K := K) (W := W) (m := m) (B := B) h6 hm hB hW1 hz (show r ≤ 3 by omega) (wtr (Pn n) (List.range' 0 r) + 1) (List.range' 0 r) σ1 (by omega) (List.length_range' ..) (Vr_range r 0 0 (Nat.le_refl 0) (by omega)) h1 (hT.qm g1) row1
      have hd : dfs okM (Cm n K W m B) (PN n) r A = rs n (Cm n K W m B) (List.range' 0 r) A := by
        have := dfs_rs (Cf := Cm n K W m B) h6 r 0 A (by omega) (Or.inr (Nat.zero_le _))
        rw [List.drop_zero] at this
        exact this
      rw [mlm, hd]
      cases hrs : rs n (Cm n K W m B) (List.range' 0 r) A with
      | some l =>
        rw [hrs] at res
        obtain ⟨rw', e2, q1, q2, q3, q4⟩ := res
        refine ⟨σ2, g1.tr g2, by rw [st]; exact e2, fun r' l' h => ?_⟩
        cases h
        exact ⟨rw', q1, q2, by omega, q3, q4⟩
      | none =>
        rw [hrs] at res
        have res' : exec (d + 5) 180 46 [vR 7 0, vI (nI B), vI (nI m), vI (nI r), vI 1] [] σ1 = exec (d + 5) 180 92 [vR 7 0, vI (nI B), vI (nI m), vI (nI r), vI 0] [] σ2 := res
        obtain ⟨σ3, g3, e3, q3⟩ := ih (r + 1) (by omega) σ2 (vI 0) (h.qm (g1.tr g2)) (hT.qm (g1.tr g2))
        refine ⟨σ3, (g1.tr g2).tr g3, ?_, q3⟩
        rw [st, res', s180_92, add1N]
        exact e3
  obtain ⟨σ', g, e, q⟩ := key 4 0 (by omega) σ vN h hT
  exact ⟨σ', g, by rw [s180_e, s180_0]; exact e, q⟩
theorem m_calmOf {m B w : Nat} (h6 : n ≤ 6) (h3 : 3 ≤ n) (hm : m ≤ 1000) (hB : B < 64) (hW1 : W01 W) (hz : ZA n A) (hR : R20 A) (h : Mr σ n K W) (hT : Tb σ 35 A) (hw : w = 0 ∨ (10 ≤ w ∧ w ≤ 12)) : ∃ σ', call (d + 6) 181 [vR 7 0, vI (nI B), vI (nI m), vI (nI w)] σ = some (some (vI (pfA (clR (clmQ n K W m B A 4 0)) (clL (clmQ n K W m B A 4 0)) w)), σ') ∧ Ag QM σ σ' := by
  rw [clm_mlm hR 4 0 (Or.inl rfl)]
  obtain ⟨σ1, g1, e1, q1⟩ := m_layCalm (d := d) (K := K) (W := W) (m := m) (B := B) h6 h3 hm hB hW1 hz h hT
  have ew0 : (nI w = 0) = (w = 0) := by rw [show (0 : Int32) = nI 0 from rfl, eqN (by omega) (by omega)]
  refine ⟨σ1, ?_, g1⟩
  unfold pfA
  by_cases c0 : w = 0
  · rw [if_pos c0]
    simp only [s181_0, s181_6, s181_12, s181_43, s181_e, e1, ew0.trans (eq_true c0), Option.bind_some, Option.toList_some, Option.toList_none, List.cons_append, List.nil_append, true_or, or_true, if_true, if_false, i10, i01, Bool.false_eq_true]
  · rw [if_neg c0]
    have hw' : 10 ≤ w ∧ w ≤ 12 := by omega
    have e10 : nI w - 10 = nI (w - 10) := by rw [show (10 : Int32) = nI 10 from rfl, pk_sub (by omega)]
    cases hml : mlm n (Cm n K W m B) A 4 0 with
    | none =>
      rw [hml] at e1
      have hneg : ¬ nI (w - 10) < clR none := fun z => nI_pos (n := w - 10) (by omega) (Int32.lt_trans z (by decide))
      have : pno (((clL none)[w - 10]?).getD none) = -1 := by
        show pno ((([] : List (Option Nat))[w - 10]?).getD none) = -1
        rfl
      rw [this]
      simp only [s181_e, s181_0, s181_6, s181_17, s181_42, s181_43, e1, ew0.trans (eq_false c0), e10, hneg, Option.bind_some, Option.toList_some, Option.toList_none, List.cons_append, List.nil_append, true_or, or_true, if_true, if_false, i10, i01, Bool.false_eq_true]
    | some x =>
      obtain ⟨r, l⟩ := x
      rw [hml] at e1
      obtain ⟨rw', a1, a2, a3, a4, a5⟩ := q1 r l hml
      have e1' : call (d + 5) 180 [vR 7 0, vI (nI B), vI (nI m)] σ = some (some (vI (nI r)), σ1) := e1
      have ecl : clL (some (r, l)) = l.map some := rfl
      have elt : (nI (w - 10) < nI r) = (w - 10 < r) := ltN (by omega) (by omega)
      rw [ecl, a1, List.map_map, List.getElem?_map]
      by_cases c1 : w - 10 < r
      · have hget := List.getElem?_eq_getElem (l := rw') (i := w - 10) (by omega)
        have h42 := a4 _ _ hget
        have hlt := a5 _ (List.getElem_mem (l := rw') (n := w - 10) (by omega))
        have hpa := m_pairAt (d := d + 5) (h.qm g1).1 h6 hlt
        rw [hget]
        simp only [s181_e, s181_0, s181_6, s181_17, s181_26, s181_36, s181_39, s181_43, e1', ew0.trans (eq_false c0), e10, elt.trans (eq_true c1), oob_nI (show w - 10 < 3 by omega) (by decide), clN (show w - 10 ≤ 100000 by omega), h42, hpa, Option.bind_some, Option.toList_some, Option.toList_none, List.cons_append, List.nil_append, true_or, or_true, if_true, if_false, i10, i01, Bool.false_eq_true]
        rfl
      · rw [List.getElem?_eq_none (by omega)]
        simp only [s181_e, s181_0, s181_6, s181_17, s181_42, s181_43, e1', ew0.trans (eq_false c0), e10, elt.trans (eq_false c1), Option.bind_some, Option.toList_some, Option.toList_none, List.cons_append, List.nil_append, true_or, or_true, if_true, if_false, i10, i01, Bool.false_eq_true]
        rfl
end CC

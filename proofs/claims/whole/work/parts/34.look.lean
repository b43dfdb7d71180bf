/-! The reference: when to look next. -/
theorem mxw_ge {f : Nat → Nat} : ∀ {n x : Nat}, x < n → f x ≤ mxw f n
  | 0, _, h => by omega
  | b + 1, x, h => by
    rw [mxw]
    by_cases e : x = b
    · rw [e]
      split <;> omega
    · have := mxw_ge (f := f) (n := b) (show x < b by omega)
      split <;> omega
theorem mxw_step {f g : Nat → Nat} {n k : Nat} (hk : k < n) (h1 : ∀ x, x ≠ k → g x = f x) (h2 : f k ≤ g k) : mxw g n = if mxw f n < g k then g k else mxw f n := by
  have fg : ∀ x, f x ≤ g x := fun x => by
    by_cases e : x = k
    · rw [e]; exact h2
    · rw [h1 x e]; exact Nat.le_refl _
  have a1 : g k ≤ mxw g n := mxw_ge hk
  have a2 : mxw f n ≤ mxw g n := mxw_le (fun x hx => Nat.le_trans (fg x) (mxw_ge hx))
  have a3 : mxw g n ≤ if mxw f n < g k then g k else mxw f n := mxw_le (fun x hx => by
    by_cases e : x = k
    · rw [e]; split <;> omega
    · rw [h1 x e]
      have := mxw_ge (f := f) hx
      split <;> omega)
  split at a3
  · rw [if_pos (by assumption)]; omega
  · rw [if_neg (by assumption)]; omega
/-- the same choice of the least, begun higher -/
def blm (w : Nat → Nat) : Nat → Option Nat × Nat
  | 0 => (none, 99)
  | k + 1 => if w k < (blm w k).2 then (some k, w k) else blm w k
theorem blm_blk {w : Nat → Nat} : ∀ k, (∀ x, x < k + 1 → w x ≤ 21) → blm w (k + 1) = blk w (k + 1)
  | 0, h => by
    have := h 0 (by omega)
    rw [blm, blk, blm, blk, if_pos (by show w 0 < 99; omega), if_pos (by show w 0 < 22; omega)]
  | k + 1, h => by rw [blm, blk, blm_blk k (fun x hx => h x (by omega))]
section M5
variable {d : Nat} {σ : St} {n : Nat} {K W A : Nat → Int32} {a b : Nat} {g : Sg}
theorem gC_step {v k x : Nat} : gC n K W A a b g (v + 1) k x = gC n K W A a b g v k x + if gOk n K W A a b g v = true ∧ ixo (gR n K W A a b v k a) = x then 1 else 0 := by
  unfold gC
  rw [cn]
  by_cases c : gOk n K W A a b g v = true ∧ ixo (gR n K W A a b v k a) = x
  · rw [if_pos c, if_pos (by rw [Bool.and_eq_true]; exact ⟨c.1, decide_eq_true c.2⟩)]
  · rw [if_neg c, if_neg (fun z => by rw [Bool.and_eq_true] at z; exact c ⟨z.1, of_decide_eq_true z.2⟩)]
    rfl
theorem gC_le {v k x : Nat} : gC n K W A a b g v k x ≤ v := cn_le v
theorem ixo_lt {o : Option Nat} (h6 : n ≤ 6) (h : ∀ b, o = some b → b < n) : ixo o < 7 := by
  cases o with
  | none => show 0 < 7; omega
  | some b => have := h b rfl; show b + 1 < 7; omega
theorem l_parts {k : Nat} {x1 x2 : Int32} (h6 : n ≤ 6) (hk : k < 6) : ∀ f v, v + f = 21 → ∀ (σ : St) (v6 : IV), SpD σ n K W A a b g 21 → (∀ x, x < 7 → ar σ 47 0 x = nI (gC n K W A a b g v k x)) → ∃ σ' v6', exec d 197 50 [vR 7 0, vI x1, vI x2, vI (nI k), vI (nI (mxw (gC n K W A a b g v k) 7)), vI (nI v), v6] [] σ = exec d 197 122 [vR 7 0, vI x1, vI x2, vI (nI k), vI (nI (mxw (gC n K W A a b g 21 k) 7)), vI (nI 21), v6'] [] σ' ∧ Ag (fun x q => x = 47 ∧ q = 0) σ σ' := by
  intro f
  induction f with
  | zero =>
    intro v hv σ v6 h hp
    have e : v = 21 := by omega
    subst e
    exact ⟨σ, v6, by rw [s197_50, show (21 : Int32) = nI 21 from rfl, if_neg nlt], Ag.rf⟩
  | succ f ih =>
    intro v hv σ v6 h hp
    have lt21 : nI v < 21 := by rw [show (21 : Int32) = nI 21 from rfl]; exact ltn (by omega) (by omega)
    obtain ⟨q, hq⟩ : ∃ q, ixo (gR n K W A a b v k a) = q := ⟨_, rfl⟩
    have hq7 : q < 7 := by rw [← hq]; exact ixo_lt h6 (fun b h => pick_lt h)
    have hm := (h v (by omega)).1
    have hw := (h v (by omega)).2 k hk
    have iw : oob (nI (6 * v + k)) 126 = false := oob_nI (by omega) (by omega)
    have cw := clN (j := 6 * v + k) (by omega)
    have iv : oob (nI v) 21 = false := oob_nI (by omega) (by omega)
    have cv := clN (j := v) (by omega)
    have iq : oob (nI q) 7 = false := oob_nI hq7 (by omega)
    have cq := clN (j := q) (by omega)
    have eix : en (gR n K W A a b v k a) + 1 = nI q := by rw [ixo_en, hq]
    have hpq := hp q hq7
    have esum : nI (gC n K W A a b g v k q) + (if gOk n K W A a b g v = true then 1 else 0) = nI (gC n K W A a b g (v + 1) k q) := by
      rw [gC_step]
      by_cases c : gOk n K W A a b g v = true
      · rw [if_pos c, if_pos ⟨c, hq⟩, add1N]
      · rw [if_neg c, if_neg (fun z => c z.1), show (0 : Int32) = nI 0 from rfl, addN]
    obtain ⟨σ1, hσ1⟩ : ∃ y, y = se σ 47 0 q (nI (gC n K W A a b g (v + 1) k q)) := ⟨_, rfl⟩
    have g1 : Ag (fun x q => x = 47 ∧ q = 0) σ σ1 := by rw [hσ1]; exact Ag.sw ⟨rfl, rfl⟩
    have h1 : SpD σ1 n K W A a b g 21 := fun u hu => by rw [g1.1 46 0 (by omega), g1.1 45 0 (by omega)]; exact h u hu
    have p1 : ∀ x, x < 7 → ar σ1 47 0 x = nI (gC n K W A a b g (v + 1) k x) := fun x hx => by
      rw [hσ1, se_def, ar_sw_s, upd_if]
      by_cases e : x = q
      · rw [if_pos e, e]
      · rw [if_neg e, hp x hx, gC_step, if_neg (fun z => e (by rw [← z.2, hq]))]
        rfl
    have pq := p1 q hq7
    have hmx := mxw_step (f := gC n K W A a b g v k) (g := gC n K W A a b g (v + 1) k) hq7 (fun x hx => by rw [gC_step, if_neg (fun z => hx (by rw [← z.2, hq]))]; rfl) (by rw [gC_step]; omega)
    have hb1 : gC n K W A a b g (v + 1) k q ≤ v + 1 := gC_le
    have hb2 : mxw (gC n K W A a b g v k) 7 ≤ 21 := mxw_le (fun x _ => Nat.le_trans gC_le (by omega))
    have elt : (nI (mxw (gC n K W A a b g v k) 7) < nI (gC n K W A a b g (v + 1) k q)) = (mxw (gC n K W A a b g v k) 7 < gC n K W A a b g (v + 1) k q) := ltN (by omega) (by omega)
    obtain ⟨σ2, w6, e2, g2⟩ := ih (v + 1) (by omega) σ1 (vI (nI q)) h1 p1
    refine ⟨σ2, w6, ?_, g1.tr g2⟩
    rw [hmx] at e2
    by_cases c : mxw (gC n K W A a b g v k) 7 < gC n K W A a b g (v + 1) k q
    · rw [if_pos c] at e2
      rw [s197_50, if_pos lt21]
      simp only [s197_57, s197_69, s197_81, s197_88, s197_90, s197_97, s197_102, s197_109, s197_114, mul6N', addN, iw, cw, hw, eix, iq, cq, hpq, iv, cv, hm, esum, ← hσ1, pq, elt.trans (eq_true c), add1N, Option.bind_some, Option.toList_some, Option.toList_none, List.cons_append, List.nil_append, true_or, or_true, if_true, if_false, i10, i01, Bool.false_eq_true]
      exact e2
    · rw [if_neg c] at e2
      rw [s197_50, if_pos lt21]
      simp only [s197_57, s197_69, s197_81, s197_88, s197_90, s197_97, s197_112, s197_114, mul6N', addN, iw, cw, hw, eix, iq, cq, hpq, iv, cv, hm, esum, ← hσ1, pq, elt.trans (eq_false c), add1N, Option.bind_some, Option.toList_some, Option.toList_none, List.cons_append, List.nil_append, true_or, or_true, if_true, if_false, i10, i01, Bool.false_eq_true]
      exact e2
theorem l_clear {x1 x2 x3 : Int32} {v5 v6 : IV} : ∀ f x, x + f = 7 → ∀ σ : St, (∀ j, j < x → ar σ 47 0 j = 0) → ∃ σ', exec d 197 23 [vR 7 0, vI x1, vI x2, vI x3, vI (nI x), v5, v6] [] σ = exec d 197 44 [vR 7 0, vI x1, vI x2, vI x3, vI (nI 7), v5, v6] [] σ' ∧ (∀ j, j < 7 → ar σ' 47 0 j = 0) ∧ Ag (fun x q => x = 47 ∧ q = 0) σ σ' := by
  intro f
  induction f with
  | zero =>
    intro x hx σ h
    have e : x = 7 := by omega
    subst e
    exact ⟨σ, by rw [s197_23, show (7 : Int32) = nI 7 from rfl, if_neg nlt], h, Ag.rf⟩
  | succ f ih =>
    intro x hx σ h
    have lt7 : nI x < 7 := by rw [show (7 : Int32) = nI 7 from rfl]; exact ltn (by omega) (by omega)
    have iv : ¬ oob (nI x) 7 = true := by rw [oob_nI (by omega) (by omega)]; exact Bool.false_ne_true
    have cv := clN (j := x) (by omega)
    have g1 : Ag (fun x q => x = 47 ∧ q = 0) σ (se σ 47 0 x 0) := Ag.sw ⟨rfl, rfl⟩
    obtain ⟨σ2, e2, p2, g2⟩ := ih (x + 1) (by omega) (se σ 47 0 x 0) (fun j hj => by
      rw [se_def, ar_sw_s, upd_if]
      split
      · rfl
      · exact h j (by omega))
    refine ⟨σ2, ?_, p2, g1.tr g2⟩
    rw [s197_23, if_pos lt7, s197_30, if_neg iv, cv, s197_38, add1N]
    exact e2
theorem gC_0 {k x : Nat} : gC n K W A a b g 0 k x = 0 := rfl
theorem mxw_0 {f : Nat → Nat} : ∀ {n : Nat}, (∀ x, x < n → f x = 0) → mxw f n = 0 := fun h => Nat.le_zero.mp (mxw_le (fun x hx => by rw [h x hx]; exact Nat.le_refl _))
theorem m_lookOf (h6 : n ≤ 6) (h : SpD σ n K W A a b g 21) : ∃ σ', call (d + 1) 197 [vR 7 0] σ = some (some (vI (en (gB n K W A a b g))), σ') ∧ Ag QM σ σ' := by
  have hc21 : ∀ k, mxw (gC n K W A a b g 21 k) 7 ≤ 21 := fun k => mxw_le (fun x _ => gC_le)
  by_cases c0 : cn (gOk n K W A a b g) 21 = 0
  · refine ⟨σ, ?_, Ag.rf⟩
    have e1 := m_spanMany (d := d) h
    have nlt0 : ¬ (0 : Int32) < nI (cn (gOk n K W A a b g) 21) := by rw [c0]; exact nlt
    unfold gB
    rw [if_pos c0, s197_e, s197_0, s197_7, if_pos (show (0 : Int32) < 6 by decide)]
    simp only [s197_13, s197_17, s197_153, e1, nlt0, Option.bind_some, Option.toList_some, Option.toList_none, List.cons_append, List.nil_append, true_or, or_true, if_true, if_false, i10, i01, Bool.false_eq_true]
    rfl
  · have key : ∀ f k, k + f = 6 → ∀ (σ : St) (v4 v5 v6 : IV), SpD σ n K W A a b g 21 → ∃ σ', exec (d + 1) 197 7 [vR 7 0, vI (en (blm (fun k => mxw (gC n K W A a b g 21 k) 7) k).1), vI (nI (blm (fun k => mxw (gC n K W A a b g 21 k) 7) k).2), vI (nI k), v4, v5, v6] [] σ = some (some (vI (en (blm (fun k => mxw (gC n K W A a b g 21 k) 7) 6).1)), σ') ∧ Ag QM σ σ' := by
      intro f
      induction f with
      | zero =>
        intro k hk σ v4 v5 v6 h
        have e : k = 6 := by omega
        subst e
        exact ⟨σ, by rw [s197_7, show (6 : Int32) = nI 6 from rfl, if_neg nlt, s197_153], Ag.rf⟩
      | succ f ih =>
        intro k hk σ v4 v5 v6 h
        have lt6 : nI k < 6 := by rw [show (6 : Int32) = nI 6 from rfl]; exact ltn (by omega) (by omega)
        have e1 := m_spanMany (d := d) h
        have hcl := cn_le (p := gOk n K W A a b g) 21
        have lt0 : (0 : Int32) < nI (cn (gOk n K W A a b g) 21) := by rw [n0]; exact ltn (by omega) (by omega)
        obtain ⟨σ1, e2, p2, g1⟩ := l_clear (d := d + 1) (x1 := en (blm (fun k => mxw (gC n K W A a b g 21 k) 7) k).1) (x2 := nI (blm (fun k => mxw (gC n K W A a b g 21 k) 7) k).2) (x3 := nI k) (v5 := v5) (v6 := v6) 7 0 rfl σ (fun j hj => by omega)
        have h1 : SpD σ1 n K W A a b g 21 := fun u hu => by rw [g1.1 46 0 (by omega), g1.1 45 0 (by omega)]; exact h u hu
        obtain ⟨σ2, w6, e3, g2⟩ := l_parts (d := d + 1) (x1 := en (blm (fun k => mxw (gC n K W A a b g 21 k) 7) k).1) (x2 := nI (blm (fun k => mxw (gC n K W A a b g 21 k) 7) k).2) h6 (show k < 6 by omega) 21 0 rfl σ1 v6 h1 (fun x hx => by rw [p2 x hx]; rfl)
        rw [mxw_0 (f := gC n K W A a b g 0 k) (fun x _ => rfl)] at e3
        have h2 : SpD σ2 n K W A a b g 21 := fun u hu => by rw [g2.1 46 0 (by omega), g2.1 45 0 (by omega)]; exact h1 u hu
        have gq : Ag QM σ σ2 := (g1.tr g2).mono (fun x q z => by unfold QM; omega)
        have hb : (blm (fun k => mxw (gC n K W A a b g 21 k) 7) k).2 ≤ 99 := by
          cases k with
          | zero => exact Nat.le_refl _
          | succ k =>
            rw [blm_blk k (fun x _ => hc21 x)]
            have := (blk_le (w := fun k => mxw (gC n K W A a b g 21 k) 7) (k + 1) (fun x _ => hc21 x)).1
            omega
        have hck := hc21 k
        have elt : (nI (mxw (gC n K W A a b g 21 k) 7) < nI (blm (fun k => mxw (gC n K W A a b g 21 k) 7) k).2) = (mxw (gC n K W A a b g 21 k) 7 < (blm (fun k => mxw (gC n K W A a b g 21 k) 7) k).2) := ltN (by omega) (by omega)
        obtain ⟨σ3, e4, g3⟩ := ih (k + 1) (by omega) σ2 (vI (nI (mxw (gC n K W A a b g 21 k) 7))) (vI (nI 21)) w6 h2
        refine ⟨σ3, ?_, gq.tr g3⟩
        have e2' : exec (d + 1) 197 23 [vR 7 0, vI (en (blm (fun k => mxw (gC n K W A a b g 21 k) 7) k).1), vI (nI (blm (fun k => mxw (gC n K W A a b g 21 k) 7) k).2), vI (nI k), vI 0, v5, v6] [] σ = exec (d + 1) 197 44 [vR 7 0, vI (en (blm (fun k => mxw (gC n K W A a b g 21 k) 7) k).1), vI (nI (blm (fun k => mxw (gC n K W A a b g 21 k) 7) k).2), vI (nI k), vI (nI 7), v5, v6] [] σ1 := e2
        have e3' : exec (d + 1) 197 50 [vR 7 0, vI (en (blm (fun k => mxw (gC n K W A a b g 21 k) 7) k).1), vI (nI (blm (fun k => mxw (gC n K W A a b g 21 k) 7) k).2), vI (nI k), vI 0, vI 0, v6] [] σ1 = exec (d + 1) 197 122 [vR 7 0, vI (en (blm (fun k => mxw (gC n K W A a b g 21 k) 7) k).1), vI (nI (blm (fun k => mxw (gC n K W A a b g 21 k) 7) k).2), vI (nI k), vI (nI (mxw (gC n K W A a b g 21 k) 7)), vI (nI 21), w6] [] σ2 := e3
        rw [s197_7, if_pos lt6]
        simp only [s197_13, s197_17, s197_20, e1, lt0, Option.bind_some, Option.toList_some, Option.toList_none, List.cons_append, List.nil_append, true_or, or_true, if_true, if_false, i10, i01, Bool.false_eq_true]
        rw [e2', s197_44, e3']
        have eb : blm (fun k => mxw (gC n K W A a b g 21 k) 7) (k + 1) = if mxw (gC n K W A a b g 21 k) 7 < (blm (fun k => mxw (gC n K W A a b g 21 k) 7) k).2 then (some k, mxw (gC n K W A a b g 21 k) 7) else blm (fun k => mxw (gC n K W A a b g 21 k) 7) k := rfl
        rw [eb] at e4
        by_cases c : mxw (gC n K W A a b g 21 k) 7 < (blm (fun k => mxw (gC n K W A a b g 21 k) 7) k).2
        · rw [if_pos c] at e4
          simp only [s197_122, s197_128, s197_133, s197_140, s197_146, elt.trans (eq_true c), add1N, Option.bind_some, Option.toList_some, Option.toList_none, List.cons_append, List.nil_append, true_or, or_true, if_true, if_false, i10, i01, Bool.false_eq_true]
          exact e4
        · rw [if_neg c] at e4
          simp only [s197_122, s197_132, s197_133, s197_145, s197_146, elt.trans (eq_false c), add1N, Option.bind_some, Option.toList_some, Option.toList_none, List.cons_append, List.nil_append, true_or, or_true, if_true, if_false, i10, i01, Bool.false_eq_true]
          exact e4
    obtain ⟨σ', e, g'⟩ := key 6 0 rfl σ vN vN vN h
    refine ⟨σ', ?_, g'⟩
    unfold gB
    rw [if_neg c0, s197_e, s197_0]
    rw [blm_blk 5 (fun x _ => hc21 x)] at e
    exact e
theorem m_spanOf {x : Nat} (h6 : n ≤ 6) (ha : a < n) (hb : b < n) (hab : a ≠ b) (hx : x ≤ 3) (hg : sgW n g) (hW1 : W01 W) (hz : ZA n A) (h : Mr σ n K W) (hT : Tb σ 35 A) (hS : Sm σ g) : ∃ σ', call (d + 4) 198 [vR 7 0, vI (nI a), vI (nI b), vI (nI x)] σ = some (some (vI (gAn n K W A a b g x)), σ') ∧ Ag QM σ σ' := by
  obtain ⟨σ1, e1, D1, g1⟩ := m_laySpan (d := d) h6 ha hb hab hg hW1 hz h hT hS
  have t0 : ((nI x).toInt = 0) = (x = 0) := toI0 (by omega)
  have t1 : ((nI x).toInt = 1) = (x = 1) := toI1 (by omega)
  have t2 : ((nI x).toInt = 2) = (x = 2) := toI2 (by omega)
  unfold gAn
  by_cases c0 : x = 0
  · refine ⟨σ1, ?_, g1⟩
    rw [if_pos c0]
    simp only [s198_e, s198_0, s198_6, s198_32, s198_36, e1, t0.trans (eq_true c0), m_spanMany (d := d + 3) D1, Option.bind_some, Option.toList_some, Option.toList_none, List.cons_append, List.nil_append, true_or, or_true, if_true, if_false, i10, i01, Bool.false_eq_true]
  · rw [if_neg c0]
    by_cases c1 : x = 1
    · refine ⟨σ1, ?_, g1⟩
      rw [if_pos c1]
      simp only [s198_e, s198_0, s198_6, s198_37, s198_41, e1, t0.trans (eq_false c0), t1.trans (eq_true c1), m_spanLeast (d := d + 3) D1, Option.bind_some, Option.toList_some, Option.toList_none, List.cons_append, List.nil_append, true_or, or_true, if_true, if_false, i10, i01, Bool.false_eq_true]
    · rw [if_neg c1]
      by_cases c2 : x = 2
      · refine ⟨σ1, ?_, g1⟩
        rw [if_pos c2]
        simp only [s198_e, s198_0, s198_6, s198_42, s198_46, e1, t0.trans (eq_false c0), t1.trans (eq_false c1), t2.trans (eq_true c2), m_spanMost (d := d + 3) D1, Option.bind_some, Option.toList_some, Option.toList_none, List.cons_append, List.nil_append, true_or, or_true, if_true, if_false, i10, i01, Bool.false_eq_true]
      · rw [if_neg c2]
        obtain ⟨σ2, e2, g2⟩ := m_lookOf (d := d + 2) h6 D1
        refine ⟨σ2, ?_, g1.tr g2⟩
        simp only [s198_e, s198_0, s198_6, s198_47, s198_51, e1, e2, t0.trans (eq_false c0), t1.trans (eq_false c1), t2.trans (eq_false c2), Option.bind_some, Option.toList_some, Option.toList_none, List.cons_append, List.nil_append, true_or, or_true, if_true, if_false, i10, i01, Bool.false_eq_true]
end M5

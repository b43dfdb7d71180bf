/-! The reference: reading a square. -/
section MS
variable {d : Nat} {σ : St} {L e : Nat} {p : Nat → Nat}
theorem add48 {A : Int32} {g : Nat} : A + nI (48 + g) - 48 = A + nI g := by
  rw [show nI (48 + g) = nI g + 48 from by rw [show (48 : Int32) = nI 48 from rfl, addN, Nat.add_comm], ← Int32.add_assoc, Int32.add_sub_cancel]
theorem isSq_none (hL : L ≤ 38) (h : isSq p L = none) : ¬ ((flt p L none 0).1 = L ∧ ∃ x, (flt p L none 0).2 = some x ∧ (L - x) % 3 = 1) := by
  rintro ⟨h1, x, h2, h3⟩
  have hx : x < L := by
    have := (flt_none (p := p) (m := L) (k := 0) (o := some x) (Prod.ext (by rw [h1, Nat.zero_add]) h2)).2 x rfl
    omega
  have e : isSq p L = some x := by
    unfold isSq
    rw [if_pos h1, h2]
    dsimp only
    rw [if_pos (by omega)]
  rw [h] at e
  cases e
theorem m_square_f (h : MpAt σ L p) (hs : isSq p L = none) : ∃ σ', call (d + 3) 141 [vR 7 0] σ = some (some (vI (-103)), σ') ∧ QF σ σ' := by
  have h38 := h.2.1
  obtain ⟨σ1, e1, q1, g1⟩ := m_faultOf (d := d) h
  have hP1 : ar σ1 7 0 1 = nI L := (h.qf g1).1
  refine ⟨σ1, ?_, g1⟩
  have hno := isSq_none h38 hs
  have hle : (flt p L none 0).1 ≤ L := by
    have : ∀ m e k, (flt p m e k).1 ≤ k + m := by
      intro m
      induction m with
      | zero => intro e k; exact Nat.le_refl _
      | succ m ih =>
        intro e k
        rw [flt]
        split
        · have := ih (if p k = 59 then some k else e) (k + 1); omega
        · show k ≤ k + (m + 1); omega
    have := this L none 0
    omega
  rw [s141_e]
  simp only [s141_0, e1, Option.bind_some, Option.toList_some, Option.toList_none, List.cons_append, List.nil_append, true_or, or_true, if_true, if_false, i10, i01, Bool.false_eq_true]
  rw [s141_4, hP1]
  by_cases c1 : (flt p L none 0).1 = L
  · rw [c1, if_neg nlt, s141_11, q1]
    cases c2 : (flt p L none 0).2 with
    | none => rw [en_none, if_pos rfl, s141_34]
    | some x =>
      have hx : x < L := by
        have := (flt_none (p := p) (m := L) (k := 0) (o := some x) (Prod.ext (by rw [c1, Nat.zero_add]) c2)).2 x rfl
        omega
      have c3 : ¬ (L - x) % 3 = 1 := fun z => hno ⟨c1, x, c2, z⟩
      rw [c2] at q1
      have q1' : ar σ1 7 0 2 = nI x := q1
      have er : ar σ1 7 0 1 - ar σ1 7 0 2 - (ar σ1 7 0 1 - ar σ1 7 0 2) / 3 * 3 = nI ((L - x) % 3) := by
        rw [hP1, q1', pk_sub (by omega), modN (by omega)]
      have ne1 : ¬ nI ((L - x) % 3) = 1 := fun z => c3 ((eqN (b := 1) (by omega) (by omega)).mp z)
      rw [en_some, if_neg (fun z => (n1N (show x ≤ 100000 by omega)).mp z), s141_19, er, if_neg ne1, s141_34]
  · rw [if_pos (ltn (show (flt p L none 0).1 < L by omega) (by omega)), s141_34]
theorem l_sqClear {v2 : IV} : ∀ f k, k + f = 36 → ∀ σ : St, (∀ j, j < k → ar σ 35 0 j = 0 ∧ ar σ 36 0 j = 0) → ∃ σ', exec d 141 51 [vR 7 0, vI (nI k), v2] [] σ = exec d 141 77 [vR 7 0, vI (nI 36), v2] [] σ' ∧ (∀ j, j < 36 → ar σ' 35 0 j = 0 ∧ ar σ' 36 0 j = 0) ∧ Ag (fun x q => (x = 35 ∨ x = 36) ∧ q = 0) σ σ' := by
  intro f
  induction f with
  | zero =>
    intro k hk σ h
    have e : k = 36 := by omega
    subst e
    exact ⟨σ, by rw [s141_51, show (36 : Int32) = nI 36 from rfl, if_neg nlt], h, Ag.rf⟩
  | succ f ih =>
    intro k hk σ h
    have lt36 : nI k < 36 := by rw [show (36 : Int32) = nI 36 from rfl]; exact ltn (by omega) (by omega)
    have iv : ¬ oob (nI k) 36 = true := by rw [oob_nI (by omega) (by omega)]; exact Bool.false_ne_true
    have cv := clN (j := k) (by omega)
    have g1 : Ag (fun x q => (x = 35 ∨ x = 36) ∧ q = 0) σ (se (se σ 35 0 k 0) 36 0 k 0) := (Ag.sw ⟨Or.inl rfl, rfl⟩).tr (Ag.sw ⟨Or.inr rfl, rfl⟩)
    obtain ⟨σ2, e2, p2, g2⟩ := ih (k + 1) (by omega) (se (se σ 35 0 k 0) 36 0 k 0) (fun j hj => by
      simp only [ar_sw_t, ar_sw_s, se_def, sw_sw, ne_eq, not_false_eq_true, Nat.reduceEqDiff]
      rw [upd_if, upd_if]
      by_cases ej : j = k
      · rw [if_pos ej, if_pos ej]; exact ⟨rfl, rfl⟩
      · rw [if_neg ej, if_neg ej]; exact h j (by omega))
    refine ⟨σ2, ?_, p2, g1.tr g2⟩
    rw [s141_51, if_pos lt36, s141_57, if_neg iv, cv, s141_64, if_neg iv, cv, s141_71, add1N]
    exact e2
/-- what is laid of a house -/
def HsAt (σ : St) (p : Nat → Nat) (x : Nat) : Prop := ar σ 31 0 x = en (kd (p (3 * x))) ∧ ar σ 32 0 x = en (dg (p (3 * x + 1))) ∧ ar σ 33 0 x = 0 ∧ ar σ 34 0 x = 0
theorem l_sqHouses {v2 : IV} (hp127 : ∀ j, j < L → p j < 127) (hL : L ≤ 38) (hs : isSq p L = some e) : ∀ f a, a + f = e / 3 + 1 → ∀ σ : St, ar σ 7 0 3 = nI (e / 3 + 1) → (∀ j, j < L → ar σ 30 0 j = nI (p j)) → ∃ σ', exec (d + 1) 141 79 [vR 7 0, vI (nI a), v2] [] σ = exec (d + 1) 141 143 [vR 7 0, vI (nI (e / 3 + 1)), v2] [] σ' ∧ (∀ x, a ≤ x → x < e / 3 + 1 → HsAt σ' p x) ∧ (∀ t x, (x < a ∨ e / 3 + 1 ≤ x) → ar σ' t 0 x = ar σ t 0 x) ∧ Ag (fun x q => (31 ≤ x ∧ x ≤ 34) ∧ q = 0) σ σ' := by
  obtain ⟨a1, a2, a3, a4, a5, a6, a7, a8, a9, a10⟩ := isSq_facts hp127 hs
  intro f
  induction f with
  | zero =>
    intro a ha σ hn hl
    have ea : a = e / 3 + 1 := by omega
    subst ea
    exact ⟨σ, by rw [s141_79, hn, if_neg nlt], fun x h1 h2 => by omega, fun _ _ _ => rfl, Ag.rf⟩
  | succ f ih =>
    intro a ha σ hn hl
    obtain ⟨⟨k1, hk1⟩, ⟨k2, hk2⟩⟩ := a7 a (by omega)
    have r1 := hl (3 * a) (by omega)
    have r2 := hl (3 * a + 1) (by omega)
    have hk2' := (dg_lt hk2).2
    have ev : nI (p (3 * a + 1)) - 48 = nI k2 := by rw [hk2', show (48 : Int32) = nI 48 from rfl, pk_sub (by omega)]; congr 1; omega
    have i1 := oob_nI (show 3 * a < 38 by omega) (by decide)
    have i2 := oob_nI (show 3 * a + 1 < 38 by omega) (by decide)
    have ia := oob_nI (show a < 6 by omega) (by decide)
    have ca := cl6 (show a < 6 by omega)
    have c1 := clN (show 3 * a ≤ 100000 by omega)
    have c2 := clN (show 3 * a + 1 ≤ 100000 by omega)
    have eK := m_kindBy (d := d) (σ := σ) (hp127 (3 * a) (by omega))
    obtain ⟨σ1, hσ1⟩ : ∃ y, y = se (se (se (se σ 31 0 a (nI k1)) 32 0 a (nI k2)) 33 0 a 0) 34 0 a 0 := ⟨_, rfl⟩
    have g1 : Ag (fun x q => (31 ≤ x ∧ x ≤ 34) ∧ q = 0) σ σ1 := by
      rw [hσ1]
      refine (((Ag.sw ⟨?_, rfl⟩).tr (Ag.sw ⟨?_, rfl⟩)).tr (Ag.sw ⟨?_, rfl⟩)).tr (Ag.sw ⟨?_, rfl⟩) <;> omega
    have r2' : ar (se σ 31 0 a (nI k1)) 30 0 (3 * a + 1) = nI (p (3 * a + 1)) := by simp only [ar_sw_t, ar_sw_s, se_def, sw_sw, ne_eq, not_false_eq_true, Nat.reduceEqDiff]; exact r2
    obtain ⟨σ2, e2, q2, u2, g2⟩ := ih (a + 1) (by omega) σ1 (by rw [g1.1 7 0 (by omega)]; exact hn) (fun j hj => by rw [g1.1 30 0 (by omega)]; exact hl j hj)
    refine ⟨σ2, ?_, fun x h1 h2 => ?_, fun t x hx => ?_, g1.tr g2⟩
    · rw [s141_79, hn, if_pos (ltn (show a < e / 3 + 1 by omega) (by omega))]
      rw [hk1, en_some] at eK
      simp only [s141_87, s141_100, s141_103, mul3N', i1, c1, r1, eK, ia, ca, Option.bind_some, Option.toList_some, Option.toList_none, List.cons_append, List.nil_append, true_or, or_true, if_true, if_false, i10, i01, Bool.false_eq_true]
      simp only [s141_104, s141_119, s141_123, s141_130, s141_137, mul3N', add1N, i2, c2, r2', ev, ia, ca, ← hσ1, Option.bind_some, Option.toList_some, Option.toList_none, List.cons_append, List.nil_append, true_or, or_true, if_true, if_false, i10, i01, Bool.false_eq_true]
      exact e2
    · by_cases ex : x = a
      · subst ex
        have hh : ∀ t, ar σ2 t 0 x = ar σ1 t 0 x := fun t => u2 t x (Or.inl (by omega))
        unfold HsAt
        rw [hh, hh, hh, hh, hσ1, hk1, hk2]
        simp only [ar_sw_t, ar_sw_s, se_def, sw_sw, ne_eq, not_false_eq_true, Nat.reduceEqDiff, upd_s, en_some]
        exact ⟨trivial, trivial, trivial, trivial⟩
      · exact q2 x (by omega) h2
    · rw [u2 t x (by omega), hσ1]
      by_cases t1 : t = 34
      · subst t1; simp only [ar_sw_t, ar_sw_s, se_def, sw_sw, ne_eq, not_false_eq_true, Nat.reduceEqDiff]; rw [upd_n (by omega)]
      · by_cases t2 : t = 33
        · subst t2; simp only [ar_sw_t, ar_sw_s, se_def, sw_sw, ne_eq, not_false_eq_true, Nat.reduceEqDiff]; rw [upd_n (by omega)]
        · by_cases t3 : t = 32
          · subst t3; simp only [ar_sw_t, ar_sw_s, se_def, sw_sw, ne_eq, not_false_eq_true, Nat.reduceEqDiff]; rw [upd_n (by omega)]
          · by_cases t4 : t = 31
            · subst t4; simp only [ar_sw_t, ar_sw_s, se_def, sw_sw, ne_eq, not_false_eq_true, Nat.reduceEqDiff]; rw [upd_n (by omega)]
            · simp only [se_def]
              rw [ar_sw_t t1, ar_sw_t t2, ar_sw_t t3, ar_sw_t t4]
theorem l_sqTold (hp127 : ∀ j, j < L → p j < 127) (hL : L ≤ 38) (hs : isSq p L = some e) : ∀ f i, i + f = (L - e - 1) / 3 → ∀ (σ : St) (v2 : IV), ar σ 7 0 1 = nI L → (∀ j, j < L → ar σ 30 0 j = nI (p j)) → (∀ j, j < 36 → ar σ 35 0 j = tA p e i j) → ∃ σ' v2', exec (d + 1) 141 150 [vR 7 0, vI (nI (e + 1 + 3 * i)), v2] [] σ = exec (d + 1) 141 216 [vR 7 0, vI (nI L), v2'] [] σ' ∧ (∀ j, j < 36 → ar σ' 35 0 j = tA p e ((L - e - 1) / 3) j) ∧ Ag (fun x q => x = 35 ∧ q = 0) σ σ' := by
  obtain ⟨a1, a2, a3, a4, a5, a6, a7, a8, a9, a10⟩ := isSq_facts hp127 hs
  intro f
  induction f with
  | zero =>
    intro i hi σ v2 hL1 hl hA
    have ei : i = (L - e - 1) / 3 := by omega
    have eL : e + 1 + 3 * i = L := by omega
    rw [ei] at hA
    exact ⟨σ, v2, by rw [eL, s141_150, hL1, if_neg nlt], hA, Ag.rf⟩
  | succ f ih =>
    intro i hi σ v2 hL1 hl hA
    obtain ⟨x, y, g, hx, hy, hxy, hg0, hg, p0, p1, p2⟩ := told_facts hp127 hs (show i < (L - e - 1) / 3 by omega)
    obtain ⟨b, hb⟩ : ∃ b, b = e + 1 + 3 * i := ⟨_, rfl⟩
    have hbL : b + 2 < L := by omega
    rw [← hb] at p0 p1 p2 ⊢
    have r0 := hl b (by omega)
    have r1 := hl (b + 1) (by omega)
    have r2 := hl (b + 2) (by omega)
    rw [p0] at r0
    rw [p1] at r1
    rw [p2] at r2
    have i0 := oob_nI (show b < 38 by omega) (by decide)
    have i1 := oob_nI (show b + 1 < 38 by omega) (by decide)
    have i2 := oob_nI (show b + 2 < 38 by omega) (by decide)
    have c0 := clN (show b ≤ 100000 by omega)
    have c1 := clN (show b + 1 ≤ 100000 by omega)
    have c2 := clN (show b + 2 ≤ 100000 by omega)
    have b2 : nI b + 2 = nI (b + 2) := by rw [show (2 : Int32) = nI 2 from rfl, addN]
    have b3 : nI b + 3 = nI (b + 3) := by rw [show (3 : Int32) = nI 3 from rfl, addN]
    have s0 : (6 : Int32) * (nI (48 + x) - 48) = nI (6 * x) := by
      rw [show nI (48 + x) - 48 = nI x from by rw [show (48 : Int32) = nI 48 from rfl, pk_sub (by omega)]; congr 1; omega, mul6N']
    have s48 : nI (6 * x + (48 + y)) - 48 = nI (6 * x + y) := by rw [show (48 : Int32) = nI 48 from rfl, pk_sub (by omega)]; congr 1; omega
    have ix := oob_nI (show 6 * x + y < 36 by omega) (by decide)
    have cx := clN (show 6 * x + y ≤ 100000 by omega)
    have hv := hA (6 * x + y) (by omega)
    have eT : tA p e (i + 1) = upd (tA p e i) (6 * x + y) (bd (tA p e i (6 * x + y) + nI g)) := by
      rw [tA, ← hb, p0, p1, p2, show 48 + x - 48 = x by omega, show 48 + y - 48 = y by omega, show 48 + g - 48 = g by omega]
    obtain ⟨σ1, hσ1⟩ : ∃ z, z = se σ 35 0 (6 * x + y) (bd (tA p e i (6 * x + y) + nI g)) := ⟨_, rfl⟩
    have g1 : Ag (fun x q => x = 35 ∧ q = 0) σ σ1 := by rw [hσ1]; exact Ag.sw ⟨rfl, rfl⟩
    obtain ⟨σ2, w2, e2, q2, g2⟩ := ih (i + 1) (by omega) σ1 (vI (nI (6 * x + y))) (by rw [g1.1 7 0 (by omega)]; exact hL1) (fun j hj => by rw [g1.1 30 0 (by omega)]; exact hl j hj) (fun j hj => by
      rw [eT, hσ1, se_def, ar_sw_s, upd_if, upd_if, hA j hj])
    refine ⟨σ2, w2, ?_, q2, g1.tr g2⟩
    have eb : e + 1 + 3 * (i + 1) = b + 3 := by omega
    rw [eb] at e2
    rw [s141_150, hL1, if_pos (ltn (show b < L by omega) (by omega))]
    simp only [s141_158, s141_166, s141_178, s141_194, s141_202, s141_209, s141_210, i0, i1, i2, c0, c1, c2, b2, b3, add1N, r0, r1, r2, s0, s48, add48, addN, ix, cx, hv, m_topped, ← hσ1, Option.bind_some, Option.toList_some, Option.toList_none, List.cons_append, List.nil_append, true_or, or_true, if_true, if_false, i10, i01, Bool.false_eq_true]
    exact e2
/-- what is as it was behind a square that is read -/
def SqF : Nat → Nat → Prop := fun x q => q = 0 ∧ (x = 7 ∨ (31 ≤ x ∧ x ≤ 47 ∧ x ≠ 44))
theorem m_square_t (h : MpAt σ L p) (hs : isSq p L = some e) : ∃ σ', call (d + 3) 141 [vR 7 0] σ = some (some (vI (nI (e / 3 + 1))), σ') ∧ (ar σ' 7 0 3 = nI (e / 3 + 1) ∧ ar σ' 7 0 1 = 0 ∧ ar σ' 7 0 4 = 0 ∧ ar σ' 7 0 5 = 0 ∧ ar σ' 7 0 6 = 0 ∧ ar σ' 7 0 7 = 0 ∧ ar σ' 7 0 24 = 0 ∧ ar σ' 7 0 8 = ar σ 7 0 8 + 1 ∧ ∀ j, (j = 20 ∨ j = 23 ∨ (30 ≤ j ∧ j ≤ 35)) → ar σ' 7 0 j = ar σ 7 0 j) ∧ (∀ x, x < e / 3 + 1 → HsAt σ' p x) ∧ (∀ x, e / 3 + 1 ≤ x → ar σ' 31 0 x = ar σ 31 0 x) ∧ (∀ j, j < 36 → ar σ' 35 0 j = tA p e ((L - e - 1) / 3) j) ∧ (∀ j, j < 36 → ar σ' 36 0 j = 0) ∧ Ag SqF σ σ' := by
  have h38 := h.2.1
  have hp127 : ∀ j, j < L → p j < 127 := fun j hj => (h.2.2 j hj).2.2
  obtain ⟨a1, a2, a3, a4, a5, a6, a7, a8, a9, a10⟩ := isSq_facts hp127 hs
  obtain ⟨hf, -⟩ := isSq_some hs
  obtain ⟨σ1, e1, q1, g1⟩ := m_faultOf (d := d) h
  have h1 := h.qf g1
  have hP1 : ar σ1 7 0 1 = nI L := h1.1
  have f1 : (flt p L none 0).1 = L := by rw [hf]
  have f2 : (flt p L none 0).2 = some e := by rw [hf]
  rw [f1] at e1
  rw [f2, en_some] at q1
  have er : ar σ1 7 0 1 - ar σ1 7 0 2 - (ar σ1 7 0 1 - ar σ1 7 0 2) / 3 * 3 = 1 := by
    rw [hP1, q1, pk_sub (by omega), modN (by omega), show (L - e) % 3 = 1 by omega]
    rfl
  have en3 : (ar σ1 7 0 2 + 1) / 3 = nI (e / 3 + 1) := by rw [q1, add1N, divN (by omega)]; congr 1; omega
  obtain ⟨σ2, hσ2⟩ : ∃ z, z = se σ1 7 0 3 (nI (e / 3 + 1)) := ⟨_, rfl⟩
  have l2 : ∀ j, j < L → ar σ2 30 0 j = nI (p j) := fun j hj => by rw [hσ2]; simp only [ar_sw_t, ar_sw_s, se_def, sw_sw, ne_eq, not_false_eq_true, Nat.reduceEqDiff]; exact (h1.2.2 j hj).1
  have F7 : ar σ2 7 0 = upd (ar σ1 7 0) 3 (nI (e / 3 + 1)) := by rw [hσ2]; simp only [ar_sw_t, ar_sw_s, se_def, sw_sw, ne_eq, not_false_eq_true, Nat.reduceEqDiff]
  obtain ⟨σ3, e3, q3, g3⟩ := l_sqClear (d := d + 3) (v2 := vN) 36 0 rfl σ2 (fun j hj => by omega)
  have n3 : ar σ3 7 0 = ar σ2 7 0 := g3.1 7 0 (by omega)
  obtain ⟨σ4, e4, q4, u4, g4⟩ := l_sqHouses (d := d + 2) (v2 := vN) hp127 h38 hs (e / 3 + 1) 0 (by omega) σ3 (by rw [n3, F7, upd_s]) (fun j hj => by rw [g3.1 30 0 (by omega)]; exact l2 j hj)
  have n4 : ar σ4 7 0 = ar σ2 7 0 := by rw [g4.1 7 0 (by omega), n3]
  obtain ⟨σ5, w5, e5, q5, g5⟩ := l_sqTold (d := d + 2) hp127 h38 hs ((L - e - 1) / 3) 0 (by omega) σ4 vN (by rw [n4, F7, upd_n (by decide)]; exact hP1) (fun j hj => by rw [g4.1 30 0 (by omega), g3.1 30 0 (by omega)]; exact l2 j hj) (fun j hj => by rw [g4.1 35 0 (by omega), (q3 j hj).1]; rfl)
  have n5 : ar σ5 7 0 = upd (ar σ1 7 0) 3 (nI (e / 3 + 1)) := by rw [g5.1 7 0 (by omega), n4, F7]
  have e3' : exec (d + 3) 141 51 [vR 7 0, vI 0, vN] [] σ2 = exec (d + 3) 141 77 [vR 7 0, vI (nI 36), vN] [] σ3 := e3
  have e4' : exec (d + 3) 141 79 [vR 7 0, vI 0, vN] [] σ3 = exec (d + 3) 141 143 [vR 7 0, vI (nI (e / 3 + 1)), vN] [] σ4 := e4
  have e2 : ar σ4 7 0 2 + 1 = nI (e + 1 + 3 * 0) := by rw [n4, F7, upd_n (by decide), q1, add1N]
  obtain ⟨σ6, hσ6⟩ : ∃ z, z = sw σ5 7 0 (upd (upd (upd (upd (upd (upd (upd (ar σ5 7 0) 4 0) 5 0) 6 0) 7 0) 24 0) 8 (ar σ5 7 0 8 + 1)) 1 0) := ⟨_, rfl⟩
  have n6 : ar σ6 7 0 = upd (upd (upd (upd (upd (upd (upd (ar σ5 7 0) 4 0) 5 0) 6 0) 7 0) 24 0) 8 (ar σ5 7 0 8 + 1)) 1 0 := by rw [hσ6, ar_sw_s]
  have o6 : ∀ t, t ≠ 7 → ar σ6 t 0 = ar σ5 t 0 := fun t ht => by rw [hσ6, ar_sw_t ht]
  have oA : ∀ j, j ≠ 29 → j ≠ 2 → ar σ1 7 0 j = ar σ 7 0 j := g1.2.1
  refine ⟨σ6, ?_, ⟨?_, ?_, ?_, ?_, ?_, ?_, ?_, ?_, fun j hj => ?_⟩, fun x hx => ?_, fun x hx => ?_, fun j hj => ?_, fun j hj => ?_, ?_⟩
  · rw [s141_e]
    simp only [s141_0, e1, Option.bind_some, Option.toList_some, Option.toList_none, List.cons_append, List.nil_append, true_or, or_true, if_true, if_false, i10, i01, Bool.false_eq_true]
    rw [s141_4, hP1, if_neg nlt, s141_11, q1, if_neg (fun z => (n1N (show e ≤ 100000 by omega)).mp z), s141_19, er, if_pos rfl, s141_37, en3, ← hσ2, e3', s141_77, e4', s141_143, e2, e5, s141_216]
    have ev : ∀ f : Nat → Int32, upd (upd (upd (upd (upd f 4 0) 5 0) 6 0) 7 0) 24 0 8 = f 8 := fun f => by
      rw [upd_n (by decide), upd_n (by decide), upd_n (by decide), upd_n (by decide), upd_n (by decide)]
    have e3v : ar σ6 7 0 3 = nI (e / 3 + 1) := by rw [n6, n5]; simp only [upd_n, upd_s, ne_eq, Nat.reduceEqDiff, not_false_eq_true]
    simp only [ar_sw_t, ar_sw_s, se_def, sw_sw, ne_eq, not_false_eq_true, Nat.reduceEqDiff, ev]
    rw [← hσ6, ← n6, e3v]
  · rw [n6, n5]; simp only [upd_n, upd_s, ne_eq, Nat.reduceEqDiff, not_false_eq_true]
  · rw [n6]; simp only [upd_n, upd_s, ne_eq, Nat.reduceEqDiff, not_false_eq_true]
  · rw [n6]; simp only [upd_n, upd_s, ne_eq, Nat.reduceEqDiff, not_false_eq_true]
  · rw [n6]; simp only [upd_n, upd_s, ne_eq, Nat.reduceEqDiff, not_false_eq_true]
  · rw [n6]; simp only [upd_n, upd_s, ne_eq, Nat.reduceEqDiff, not_false_eq_true]
  · rw [n6]; simp only [upd_n, upd_s, ne_eq, Nat.reduceEqDiff, not_false_eq_true]
  · rw [n6]; simp only [upd_n, upd_s, ne_eq, Nat.reduceEqDiff, not_false_eq_true]
  · rw [n6, n5]; simp only [upd_n, upd_s, ne_eq, Nat.reduceEqDiff, not_false_eq_true]; rw [oA 8 (by decide) (by decide)]
  · rw [n6, n5, upd_n (by omega), upd_n (by omega), upd_n (by omega), upd_n (by omega), upd_n (by omega), upd_n (by omega), upd_n (by omega), upd_n (by omega)]
    exact oA j (by omega) (by omega)
  · have := q4 x (Nat.zero_le _) hx
    unfold HsAt at this ⊢
    rw [o6 31 (by decide), o6 32 (by decide), o6 33 (by decide), o6 34 (by decide), g5.1 31 0 (by omega), g5.1 32 0 (by omega), g5.1 33 0 (by omega), g5.1 34 0 (by omega)]
    exact this
  · rw [o6 31 (by decide), g5.1 31 0 (by omega), u4 31 x (Or.inr hx), g3.1 31 0 (by omega), hσ2]
    simp only [ar_sw_t, ar_sw_s, se_def, sw_sw, ne_eq, not_false_eq_true, Nat.reduceEqDiff]
    rw [g1.1 31 0 (by unfold QM; omega)]
  · rw [o6 35 (by decide)]; exact q5 j hj
  · rw [o6 36 (by decide), g5.1 36 0 (by omega), g4.1 36 0 (by omega)]; exact (q3 j hj).2
  · refine ⟨fun t q hn => ?_, ?_⟩
    · have hn' : ¬ (q = 0 ∧ (t = 7 ∨ (31 ≤ t ∧ t ≤ 47 ∧ t ≠ 44))) := hn
      rw [hσ6]
      by_cases hq : q = 0
      · subst hq
        rw [ar_sw_t (by omega), g5.1 t 0 (by omega), g4.1 t 0 (by omega), g3.1 t 0 (by omega), hσ2, se_def, ar_sw_t (by omega)]
        exact g1.1 t 0 (by unfold QM; omega)
      · rw [ar_sw_q hq, g5.1 t q (by omega), g4.1 t q (by omega), g3.1 t q (by omega), hσ2, se_def, ar_sw_q hq]
        exact g1.1 t q (by unfold QM; omega)
    · rw [show σ6.2 = σ5.2 by rw [hσ6]; rfl, g5.2, g4.2, g3.2, show σ2.2 = σ1.2 by rw [hσ2]; rfl, g1.2.2]
end MS

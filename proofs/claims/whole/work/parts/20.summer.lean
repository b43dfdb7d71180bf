/-! Summers. -/
def drw (s : Nat) : Nat := (1103515245 * s + 12345) % 2147483648
theorem drw_lt (s : Nat) : drw s < 2 ^ 31 := Nat.mod_lt _ (by decide)
theorem bm32 {x : Int} (h1 : 0 ≤ x) (h2 : x < 2 ^ 31) : x.bmod (2 ^ 32) = x := by
  rw [Int.bmod_def]
  have : x % ((2 ^ 32 : Nat) : Int) = x := Int.emod_eq_of_lt h1 (by omega)
  rw [this, if_pos (by omega)]
theorem drX {s : Nat} (hs : s < 2 ^ 31) : (1103515245 * (nI s).toInt64 + 12345 : Int64).toInt = ((1103515245 * s + 12345 : Nat) : Int) := by
  have e1 : ((nI s).toInt64).toInt = (s : Int) := by rw [Int32.toInt_toInt64, nI_toInt hs]
  have c1 : (1103515245 : Int64).toInt = 1103515245 := by decide
  have c2 : (12345 : Int64).toInt = 12345 := by decide
  have hb : ∀ x : Int, 0 ≤ x → x < 2 ^ 63 → x.bmod (2 ^ 64) = x := fun x h1 h2 => by
    rw [Int.bmod_def]
    have : x % ((2 ^ 64 : Nat) : Int) = x := Int.emod_eq_of_lt h1 (by omega)
    rw [this, if_pos (by omega)]
  rw [Int64.toInt_add, Int64.toInt_mul, e1, c1, c2, hb (1103515245 * s) (by omega) (by omega), hb _ (by omega) (by omega)]
  omega
theorem drw_c {s : Nat} (hs : s < 2 ^ 31) : ((1103515245 * (nI s).toInt64 + 12345) - (1103515245 * (nI s).toInt64 + 12345) / 2147483648 * 2147483648 : Int64).toInt32 = nI (drw s) := by
  have hX := drX hs
  obtain ⟨X, hXe⟩ : ∃ X : Int64, X = 1103515245 * (nI s).toInt64 + 12345 := ⟨_, rfl⟩
  rw [← hXe] at hX ⊢
  have cM : (2147483648 : Int64).toInt = 2147483648 := by decide
  have hb : ∀ x : Int, 0 ≤ x → x < 2 ^ 63 → x.bmod (2 ^ 64) = x := fun x h1 h2 => by
    rw [Int.bmod_def]
    have : x % ((2 ^ 64 : Nat) : Int) = x := Int.emod_eq_of_lt h1 (by omega)
    rw [this, if_pos (by omega)]
  have hd : (X / 2147483648 : Int64).toInt = X.toInt / 2147483648 := by
    rw [lg_ldiv_nonneg (by rw [hX]; omega) (by rw [cM]; omega), cM]
  have hm : (X / 2147483648 * 2147483648 : Int64).toInt = X.toInt / 2147483648 * 2147483648 := by
    rw [Int64.toInt_mul, hd, cM, hb _ (by rw [hX]; omega) (by rw [hX]; omega)]
  have hr : (X - X / 2147483648 * 2147483648 : Int64).toInt = ((drw s : Nat) : Int) := by
    rw [Int64.toInt_sub, hm, hb _ (by rw [hX]; omega) (by rw [hX]; omega), hX]
    unfold drw
    omega
  have hlt := drw_lt s
  apply Int32.toInt_inj.mp
  rw [Int64.toInt_toInt32, hr, bm32 (by omega) (by omega), nI_toInt hlt]
theorem drw_m {s : Nat} (hs : s < 2 ^ 31) : ((1103515245 * (nI s).toInt64 + 12345) &&& 2147483647 : Int64).toInt32 = nI (drw s) := by
  have hX := drX hs
  obtain ⟨X, hXe⟩ : ∃ X : Int64, X = 1103515245 * (nI s).toInt64 + 12345 := ⟨_, rfl⟩
  rw [← hXe] at hX ⊢
  have hN : X.toBitVec.toNat = 1103515245 * s + 12345 := by
    have h1 : X.toInt = X.toBitVec.toInt := rfl
    rw [h1, BitVec.toInt_eq_toNat_cond] at hX
    split at hX
    · omega
    · have := X.toBitVec.isLt; omega
  have hA : (X &&& 2147483647 : Int64).toBitVec.toNat = drw s := by
    have c : (2147483647 : Int64).toBitVec.toNat = 2 ^ 31 - 1 := by decide
    rw [Int64.toBitVec_and, BitVec.toNat_and, c, hN, Nat.and_two_pow_sub_one_eq_mod]
    rfl
  have hlt := drw_lt s
  have hr : (X &&& 2147483647 : Int64).toInt = ((drw s : Nat) : Int) := by
    have h1 : (X &&& 2147483647 : Int64).toInt = (X &&& 2147483647 : Int64).toBitVec.toInt := rfl
    rw [h1, BitVec.toInt_eq_toNat_cond, hA, if_pos (by omega)]
  apply Int32.toInt_inj.mp
  rw [Int64.toInt_toInt32, hr, bm32 (by omega) (by omega), nI_toInt hlt]
section SU
variable {d : Nat} {σ : St} {n : Nat} {K W A : Nat → Int32}
theorem drv {s k : Nat} (hs : s < 2 ^ 31) (h0 : 0 < k) (hk : k ≤ 1000) : nI s / 65536 - nI s / 65536 / nI k * nI k = nI (s / 65536 % k) := by
  have e : nI s / 65536 = nI (s / 65536) := by rw [show (65536 : Int32) = nI 65536 from rfl, pk_div hs (by omega) (by omega)]
  rw [e, pk_rem (by omega) h0 (by omega)]
theorem c_draw {s k : Nat} (hs : s < 2 ^ 31) (h0 : 0 < k) (hk : k ≤ 1000) (h : ar σ 1 0 6 = nI s) : call d 13 [vR 1 0, vI (nI k)] σ = some (some (vI (nI (drw s / 65536 % k))), se σ 1 0 6 (nI (drw s))) := by
  have e0 : (0 : Int32) < nI k := ltn (b := 0) h0 (by omega)
  have e1 : ¬ nI k = 0 := by rw [show (0 : Int32) = nI 0 from rfl, eqN (by omega) (by omega)]; omega
  simp only [s13_e, s13_0, s13_26, s13_35, s13_38, s13_39, h, drw_c hs, e0, e1, Option.bind_some, Option.toList_some, Option.toList_none, List.cons_append, List.nil_append, true_or, or_true, if_true, if_false, i10, i01, Bool.false_eq_true, ar_sw_t, ar_sw_s, se_def, sw_sw, ne_eq, not_false_eq_true, Nat.reduceEqDiff, upd_s, drv (drw_lt s) h0 hk]
/-- the angers behind a summer's quarrel -/
noncomputable def sqA (A : Nat → Int32) (a b by_ : Nat) : Nat → Int32 := if a = b then A else upd A (6 * a + b) (bd (A (6 * a + b) + nI by_))
noncomputable def stc (n : Nat) (K W A : Nat → Int32) : Nat := cn (fun a => star (pick n K W A) a && lts (pick n K W A a) a) n
/-- a summer: stares, turns, seed -/
noncomputable def smr (n : Nat) (K W : Nat → Int32) : Nat → Nat → (Nat → Int32) → Nat → Nat → Nat × Nat × Nat
  | 0, s, _, x, y => (x, y, s)
  | f + 1, s, A, x, y => smr n K W f (drw (drw (drw s))) (mor n K W (sqA A (drw s / 65536 % n) (drw (drw s) / 65536 % n) (drw (drw (drw s)) / 65536 % 4))) (x + stc n K W (mor n K W (sqA A (drw s / 65536 % n) (drw (drw s) / 65536 % n) (drw (drw (drw s)) / 65536 % 4)))) (y + trn n K W (sqA A (drw s / 65536 % n) (drw (drw s) / 65536 % n) (drw (drw (drw s)) / 65536 % 4)))
theorem c_stares {q : Nat} (h6 : n ≤ 6) (h : Lv σ q n K W A) : call (d + 2) 72 [vR 5 q] σ = some (some (vI (nI (stc n K W A))), σ) := c_countStares h.1 h6 h.2.2.2.2 (fun a b h => pick_lt h)
theorem lv1 {q : Nat} {f : Nat → Int32} (h : Lv σ q n K W A) : Lv (sw σ 1 0 f) q n K W A := h.ag (S := fun t _ => t = 1) (Ag.sw rfl) (fun t ht (z : t = 1) => by omega)
theorem c_summer {m s : Nat} (h6 : n ≤ 6) (hn0 : 0 < n) (hm : m ≤ 1000) (hs : s < 2 ^ 31) (h : Lv σ 0 n K W A) : ∃ σ', call (d + 4) 12 [vR 1 0, vR 5 0, vI (nI m), vI (nI s)] σ = some (none, σ') ∧ ar σ' 1 0 4 = nI (smr n K W m s A 0 0).1 ∧ ar σ' 1 0 5 = nI (smr n K W m s A 0 0).2.1 ∧ ar σ' 1 0 6 = nI (smr n K W m s A 0 0).2.2 ∧ Ag Scr σ σ' := by
  have key : ∀ s₀ f i, i + f = m → ∀ (σ : St) (A : Nat → Int32) (s x y : Nat) (v5 v6 v7 : IV), s < 2 ^ 31 → ar σ 5 0 7 = nI n → Lv σ 2 n K W A → ar σ 1 0 4 = nI x → ar σ 1 0 5 = nI y → ar σ 1 0 6 = nI s → ∃ σ', exec (d + 4) 12 26 [vR 1 0, vR 5 0, vI (nI m), vI (nI s₀), vI (nI i), v5, v6, v7] [] σ = some (none, σ') ∧ ar σ' 1 0 4 = nI (smr n K W f s A x y).1 ∧ ar σ' 1 0 5 = nI (smr n K W f s A x y).2.1 ∧ ar σ' 1 0 6 = nI (smr n K W f s A x y).2.2 ∧ Ag Scr σ σ' := by
    intro s₀ f
    induction f with
    | zero =>
      intro i hi σ A s x y v5 v6 v7 hs hn0' hL h4 h5 h6'
      have e : i = m := by omega
      subst e
      exact ⟨σ, by rw [s12_26, if_neg nlt, s12_124], h4, h5, h6', Ag.rf⟩
    | succ f ih =>
      intro i hi σ A s x y v5 v6 v7 hs hn0' hL h4 h5 h6'
      have hs1 := drw_lt s
      have hs2 := drw_lt (drw s)
      have hs3 := drw_lt (drw (drw s))
      have ha : drw s / 65536 % n < n := Nat.mod_lt _ hn0
      have hb : drw (drw s) / 65536 % n < n := Nat.mod_lt _ hn0
      have d1 := c_draw (d := d + 3) hs hn0 (by omega) h6'
      have d2 := c_draw (d := d + 3) (σ := se σ 1 0 6 (nI (drw s))) (k := n) hs1 hn0 (by omega) (by simp only [ar_sw_t, ar_sw_s, se_def, sw_sw, ne_eq, not_false_eq_true, Nat.reduceEqDiff, upd_s])
      have d3 := c_draw (d := d + 3) (σ := se (se σ 1 0 6 (nI (drw s))) 1 0 6 (nI (drw (drw s)))) (k := 4) hs2 (by omega) (by omega) (by simp only [ar_sw_t, ar_sw_s, se_def, sw_sw, ne_eq, not_false_eq_true, Nat.reduceEqDiff, upd_s])
      obtain ⟨σ3, hσ3⟩ : ∃ z, z = se (se (se σ 1 0 6 (nI (drw s))) 1 0 6 (nI (drw (drw s)))) 1 0 6 (nI (drw (drw (drw s)))) := ⟨_, rfl⟩
      rw [← hσ3] at d3
      have L3 : Lv σ3 2 n K W A := by rw [hσ3]; exact lv1 (lv1 (lv1 hL))
      have g3 : Ag Scr σ σ3 := by rw [hσ3]; exact ((Ag.sw (by unfold Scr; omega)).tr (Ag.sw (by unfold Scr; omega))).tr (Ag.sw (by unfold Scr; omega))
      have x4 : ar σ3 1 0 4 = nI x := by rw [hσ3]; simp only [ar_sw_t, ar_sw_s, se_def, sw_sw, ne_eq, not_false_eq_true, Nat.reduceEqDiff, upd_n]; exact h4
      have x5 : ar σ3 1 0 5 = nI y := by rw [hσ3]; simp only [ar_sw_t, ar_sw_s, se_def, sw_sw, ne_eq, not_false_eq_true, Nat.reduceEqDiff, upd_n]; exact h5
      have x6 : ar σ3 1 0 6 = nI (drw (drw (drw s))) := by rw [hσ3]; simp only [ar_sw_t, ar_sw_s, se_def, sw_sw, ne_eq, not_false_eq_true, Nat.reduceEqDiff, upd_s]
      obtain ⟨a, hae⟩ : ∃ z, z = drw s / 65536 % n := ⟨_, rfl⟩
      obtain ⟨b, hbe⟩ : ∃ z, z = drw (drw s) / 65536 % n := ⟨_, rfl⟩
      obtain ⟨y3, hye⟩ : ∃ z, z = drw (drw (drw s)) / 65536 % 4 := ⟨_, rfl⟩
      rw [smr, ← hae, ← hbe, ← hye]
      rw [← hae] at ha d1
      rw [← hbe] at hb d2
      rw [← hye] at d3
      have size : call (d + 3) 51 [vR 5 0] σ = some (some (vI (nI n)), σ) := by rw [c_size, hn0']
      have size2 : call (d + 3) 51 [vR 5 0] (se σ 1 0 6 (nI (drw s))) = some (some (vI (nI n)), se σ 1 0 6 (nI (drw s))) := by rw [c_size]; simp only [ar_sw_t, ar_sw_s, se_def, sw_sw, ne_eq, not_false_eq_true, Nat.reduceEqDiff]; rw [hn0']
      have mid : ∃ σ4, exec (d + 4) 12 26 [vR 1 0, vR 5 0, vI (nI m), vI (nI s₀), vI (nI i), v5, v6, v7] [] σ = exec (d + 4) 12 86 [vR 1 0, vR 5 0, vI (nI m), vI (nI s₀), vI (nI i), vI (nI a), vI (nI b), vI (nI y3)] [] σ4 ∧ Lv σ4 2 n K W (sqA A a b y3) ∧ Ag (SA 2) σ3 σ4 := by
        by_cases c1 : a = b
        · have e1 : nI a = nI b := by rw [c1]
          have ht := c_areTwo_f (d := d + 2) (x := nI a) (y := nI b) L3.1 h6 (by
            rintro ⟨a', b', h1, h2, h3, h4, h5⟩
            rw [eqN (by omega) (by omega)] at h4 h5
            omega)
          refine ⟨σ3, ?_, by unfold sqA; rw [if_pos c1]; exact L3, Ag.rf⟩
          rw [s12_26, if_pos (ltn (show i < m by omega) (by omega))]
          simp only [s12_32, s12_37, s12_40, s12_47, s12_50, size, size2, d1, d2, Option.bind_some, Option.toList_some, Option.toList_none, List.cons_append, List.nil_append, true_or, or_true, if_true, if_false, i10, i01, Bool.false_eq_true]
          simp only [show (4 : Int32) = nI 4 from rfl, d3, ht, s12_57, s12_70, Option.bind_some, Option.toList_some, Option.toList_none, List.cons_append, List.nil_append, true_or, or_true, if_true, if_false, i10, i01, Bool.false_eq_true]
        · obtain ⟨σ4, e4, L4, g4⟩ := c_provoke (d := d + 1) (x := nI y3) h6 ha hb L3
          have ht := c_areTwo_t (d := d + 2) L3.1 h6 ha hb c1
          refine ⟨σ4, ?_, by unfold sqA; rw [if_neg c1]; exact L4, g4⟩
          rw [s12_26, if_pos (ltn (show i < m by omega) (by omega))]
          simp only [s12_32, s12_37, s12_40, s12_47, s12_50, size, size2, d1, d2, Option.bind_some, Option.toList_some, Option.toList_none, List.cons_append, List.nil_append, true_or, or_true, if_true, if_false, i10, i01, Bool.false_eq_true]
          simp only [show (4 : Int32) = nI 4 from rfl, d3, ht, s12_57, s12_70, s12_73, e4, Option.bind_some, Option.toList_some, Option.toList_none, List.cons_append, List.nil_append, true_or, or_true, if_true, if_false, i10, i01, Bool.false_eq_true]
      obtain ⟨σ4, e4, L4, g4⟩ := mid
      obtain ⟨σ5, e5, L5, g5⟩ := c_changeAngers (d := d + 1) h6 L4
      have g45 := g4.tr g5
      have n1 : ¬ SA 2 1 0 := by unfold SA; omega
      have y4 : ar σ4 1 0 5 = nI y := by rw [g4.1 _ _ n1]; exact x5
      have y5 : ar σ5 1 0 = ar σ3 1 0 := g45.1 _ _ n1
      obtain ⟨A2, hA2⟩ : ∃ z, z = sqA A a b y3 := ⟨_, rfl⟩
      rw [← hA2] at e5 L5 ⊢
      have hst := c_stares (d := d + 1) (σ := se σ5 1 0 5 (nI y + nI (trn n K W A2))) h6 (lv1 L5)
      have gF : Ag Scr σ (se (se σ5 1 0 5 (nI (y + trn n K W A2))) 1 0 4 (nI (x + stc n K W (mor n K W A2)))) := ((g3.tr (g45.SA_Scr (by omega))).tr (Ag.sw (by unfold Scr; omega))).tr (Ag.sw (by unfold Scr; omega))
      obtain ⟨σ6, e6, z4, z5, z6, g6⟩ := ih (i + 1) (by omega) (se (se σ5 1 0 5 (nI (y + trn n K W A2))) 1 0 4 (nI (x + stc n K W (mor n K W A2)))) (mor n K W A2) (drw (drw (drw s))) (x + stc n K W (mor n K W A2)) (y + trn n K W A2) (vI (nI a)) (vI (nI b)) (vI (nI y3)) hs3 (by rw [gF.1 _ _ (Scr_0 5 (by omega))]; exact hn0') (lv1 (lv1 L5)) (by simp only [ar_sw_t, ar_sw_s, se_def, sw_sw, ne_eq, not_false_eq_true, Nat.reduceEqDiff, upd_s]) (by simp only [ar_sw_t, ar_sw_s, se_def, sw_sw, ne_eq, not_false_eq_true, Nat.reduceEqDiff, upd_n, upd_s]) (by simp only [ar_sw_t, ar_sw_s, se_def, sw_sw, ne_eq, not_false_eq_true, Nat.reduceEqDiff, upd_n]; rw [y5]; exact x6)
      refine ⟨σ6, ?_, z4, z5, z6, gF.tr g6⟩
      rw [e4]
      have q4 : ar (se σ5 1 0 5 (nI y + nI (trn n K W A2))) 1 0 4 = nI x := by simp only [ar_sw_t, ar_sw_s, se_def, sw_sw, ne_eq, not_false_eq_true, Nat.reduceEqDiff, upd_n]; rw [y5]; exact x4
      simp only [s12_86, s12_98, s12_114, e5, y4, hst, q4, addN, add1N, Option.bind_some, Option.toList_some, Option.toList_none, List.cons_append, List.nil_append, true_or, or_true, if_true, if_false, i10, i01, Bool.false_eq_true]
      rw [addN] at q4 hst
      simp only [s12_114, hst, q4, addN, add1N, Option.bind_some, Option.toList_some, Option.toList_none, List.cons_append, List.nil_append, true_or, or_true, if_true, if_false, i10, i01, Bool.false_eq_true]
      exact e6
  obtain ⟨σ1, e1, L1, g1⟩ := c_copyLv (d := d + 3) (σ := σ) (q := 2) (q' := 0) (by decide) h
  have gA : Ag Scr σ (se (se (se σ1 1 0 4 0) 1 0 5 0) 1 0 6 (nI s)) := (((g1.SB_Scr (by omega)).tr (Ag.sw (by unfold Scr; omega))).tr (Ag.sw (by unfold Scr; omega))).tr (Ag.sw (by unfold Scr; omega))
  obtain ⟨σ2, e2, z4, z5, z6, g2⟩ := key s m 0 (by omega) (se (se (se σ1 1 0 4 0) 1 0 5 0) 1 0 6 (nI s)) A s 0 0 vN vN vN hs (by rw [gA.1 _ _ (Scr_0 5 (by omega))]; exact h.1) (lv1 (lv1 (lv1 L1))) (by simp only [ar_sw_t, ar_sw_s, se_def, sw_sw, ne_eq, not_false_eq_true, Nat.reduceEqDiff, upd_n, upd_s]; rfl) (by simp only [ar_sw_t, ar_sw_s, se_def, sw_sw, ne_eq, not_false_eq_true, Nat.reduceEqDiff, upd_n, upd_s]; rfl) (by simp only [ar_sw_t, ar_sw_s, se_def, sw_sw, ne_eq, not_false_eq_true, Nat.reduceEqDiff, upd_s])
  refine ⟨σ2, ?_, z4, z5, z6, gA.tr g2⟩
  simp only [s12_e, s12_0, s12_8, e1, Option.bind_some, Option.toList_some, Option.toList_none, List.cons_append, List.nil_append, true_or, or_true, if_true, if_false, i10, i01, Bool.false_eq_true]
  exact e2
noncomputable def smA (n : Nat) (K W A : Nat → Int32) (m s x : Nat) : Int32 := if x = 0 then nI (smr n K W m s A 0 0).1 else if x = 1 then nI (smr n K W m s A 0 0).2.1 else nI (smr n K W m s A 0 0).2.2
theorem c_summered {m s x : Nat} (hx : x ≤ 1000) (h4 : ar σ 1 0 4 = nI (smr n K W m s A 0 0).1) (h5 : ar σ 1 0 5 = nI (smr n K W m s A 0 0).2.1) (h6 : ar σ 1 0 6 = nI (smr n K W m s A 0 0).2.2) : call d 14 [vR 1 0, vI (nI x)] σ = some (some (vI (smA n K W A m s x)), σ) := by
  unfold smA
  have t0 := toI0 (show x ≤ 1000 by omega)
  have t1 := toI1 (show x ≤ 1000 by omega)
  by_cases c0 : x = 0
  · rw [if_pos c0]
    simp only [s14_e, s14_0, s14_28, s14_33, s14_38, t0.trans (eq_true c0), h4, Option.bind_some, Option.toList_some, Option.toList_none, List.cons_append, List.nil_append, true_or, or_true, if_true, if_false, i10, i01, Bool.false_eq_true]
  · rw [if_neg c0]
    by_cases c1 : x = 1
    · rw [if_pos c1]
      simp only [s14_e, s14_0, s14_28, s14_33, s14_38, t0.trans (eq_false c0), t1.trans (eq_true c1), h5, Option.bind_some, Option.toList_some, Option.toList_none, List.cons_append, List.nil_append, true_or, or_true, if_true, if_false, i10, i01, Bool.false_eq_true]
    · rw [if_neg c1]
      simp only [s14_e, s14_0, s14_28, s14_33, s14_38, t0.trans (eq_false c0), t1.trans (eq_false c1), h6, Option.bind_some, Option.toList_some, Option.toList_none, List.cons_append, List.nil_append, true_or, or_true, if_true, if_false, i10, i01, Bool.false_eq_true]
end SU

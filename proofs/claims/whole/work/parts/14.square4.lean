/-! Square: tenants, rings that end, mornings that are lived, copies. -/
abbrev Sq : Type := Nat × (Nat → Int32) × (Nat → Int32) × (Nat → Int32) × (Nat → Int32) × (Nat → Int32) × (Nat → Int32) × Nat × Int32 × Int32 × Int32
def qn (s : Sq) : Nat := s.1
def qK (s : Sq) : Nat → Int32 := s.2.1
def qV (s : Sq) : Nat → Int32 := s.2.2.1
def qT (s : Sq) : Nat → Int32 := s.2.2.2.1
def qC (s : Sq) : Nat → Int32 := s.2.2.2.2.1
def qA (s : Sq) : Nat → Int32 := s.2.2.2.2.2.1
def qW (s : Sq) : Nat → Int32 := s.2.2.2.2.2.2.1
def qm (s : Sq) : Nat := s.2.2.2.2.2.2.2.1
def qt (s : Sq) : Int32 := s.2.2.2.2.2.2.2.2.1
def qq (s : Sq) : Int32 := s.2.2.2.2.2.2.2.2.2.1
def qp (s : Sq) : Int32 := s.2.2.2.2.2.2.2.2.2.2
noncomputable def qF (s : Sq) (a : Nat) : Option Nat := pick (qn s) (qK s) (qW s) (qA s) a
theorem qF_lt {s : Sq} {a b : Nat} (h : qF s a = some b) : b < qn s := pick_lt h
/-- a square as it stands at q -/
def SqAt (σ : St) (q : Nat) (s : Sq) : Prop := Lv σ q (qn s) (qK s) (qW s) (qA s) ∧ ar σ 12 q = qV s ∧ ar σ 14 q = qT s ∧ ar σ 15 q = qC s ∧ ar σ 5 q 8 = nI (qm s) ∧ ar σ 5 q 9 = qt s ∧ ar σ 5 q 10 = qq s ∧ ar σ 5 q 11 = qp s
/-- all that a square has -/
def SB (q : Nat) : Nat → Nat → Prop := fun t q' => q' = q ∧ (t = 5 ∨ (11 ≤ t ∧ t ≤ 17))
theorem Ag.SA_SB {σ σ' : St} {q : Nat} (h : Ag (SA q) σ σ') : Ag (SB q) σ σ' := h.mono (fun t q' h => ⟨h.1, by rcases h.2 with h | h <;> omega⟩)
section SQ4
variable {d : Nat} {σ : St} {q n : Nat} {F : Nat → Option Nat} {K W A : Nat → Int32}
/-- a row of angers gone -/
def rz (n a : Nat) (A : Nat → Int32) : Nat → Int32 := fun j => if j / 6 = a ∧ j % 6 < n then 0 else A j
theorem c_moveIn {a : Nat} {k : Int32} (h6 : n ≤ 6) (ha : a < n) (h : Lv σ q n K W A) : ∃ σ', call (d + 1) 83 [vR 5 q, vI (nI a), vI k] σ = some (none, σ') ∧ Lv σ' q n (upd K a k) W (rz n a A) ∧ Ag (fun t q' => q' = q ∧ (t = 11 ∨ t = 13 ∨ t = 16)) σ σ' := by
  obtain ⟨hn, hK, hW, hA, hF⟩ := h
  refine ⟨sw (sw (sw σ 11 q (upd K a k)) 16 q (rz n a A)) 13 q (upd (ar σ 13 q) a (-1)), ?_, ⟨?_, ?_, ?_, ?_, fun c hc => ?_⟩, ((Ag.sw ⟨rfl, Or.inl rfl⟩).tr (Ag.sw ⟨rfl, Or.inr (Or.inr rfl)⟩)).tr (Ag.sw ⟨rfl, Or.inr (Or.inl rfl)⟩)⟩
  · have key := down0 (Pr := fun b => exec (d + 1) 83 9 [vR 5 q, vI (nI a), vI k, vI (nI b)] [] (sw (sw σ 11 q (upd K a k)) 16 q (fun j => if j / 6 = a ∧ j % 6 < b then 0 else A j)) = some (none, sw (sw (sw σ 11 q (upd K a k)) 16 q (rz n a A)) 13 q (upd (ar σ 13 q) a (-1)))) n (fun b hb ih => ?_) ?_
    · have e0 : sw (sw σ 11 q (upd K a k)) 16 q (fun j => if j / 6 = a ∧ j % 6 < 0 then 0 else A j) = sw σ 11 q (upd K a k) := sw_id (by rw [ar_sw_t (by decide), hA]; funext j; rw [if_neg (by omega)])
      have key : exec (d + 1) 83 9 [vR 5 q, vI (nI a), vI k, vI (nI 0)] [] (sw (sw σ 11 q (upd K a k)) 16 q (fun j => if j / 6 = a ∧ j % 6 < 0 then 0 else A j)) = _ := key
      rw [e0] at key
      simp only [s83_0, s83_7, s83_e, oob_nI (show a < 6 by omega) (by decide), cl6 (show a < 6 by omega), hK, Option.bind_some, Option.toList_some, Option.toList_none, List.cons_append, List.nil_append, true_or, or_true, if_true, if_false, i10, i01, Bool.false_eq_true, ar_sw_t, ar_sw_s, se_def, sw_sw, ne_eq, not_false_eq_true, Nat.reduceEqDiff]
      exact key
    · have i1 : oob (nI (6 * a + b)) 36 = false := oob_nI (by omega) (by omega)
      have j1 : (nI (6 * a + b)).toNatClampNeg = 6 * a + b := clN (by omega)
      rw [s83_9, ar_sw_t (by decide), ar_sw_t (by decide), hn, if_pos (ltn hb (by omega))]
      have e1 : upd (fun j => if j / 6 = a ∧ j % 6 < b then 0 else A j) (6 * a + b) 0 = (fun j => if j / 6 = a ∧ j % 6 < b + 1 then 0 else A j) := by
        funext j
        rw [upd_if]
        by_cases hj : j = 6 * a + b
        · rw [if_pos hj, if_pos (by omega)]
        · rw [if_neg hj]
          by_cases hc : j / 6 = a ∧ j % 6 < b
          · rw [if_pos hc, if_pos (by omega)]
          · rw [if_neg hc, if_neg (by omega)]
      simp only [s83_17, s83_26, s83_28, c_cell, mul6N, addN, i1, j1, add1N, Option.bind_some, Option.toList_some, Option.toList_none, List.cons_append, List.nil_append, true_or, or_true, if_true, if_false, i10, i01, Bool.false_eq_true, ar_sw_t, ar_sw_s, se_def, sw_sw, ne_eq, not_false_eq_true, Nat.reduceEqDiff, e1]
      exact ih
    · rw [s83_9, ar_sw_t (by decide), ar_sw_t (by decide), hn, if_neg nlt]
      simp only [s83_34, s83_41, oob_nI (show a < 6 by omega) (by decide), cl6 (show a < 6 by omega), Option.bind_some, Option.toList_some, Option.toList_none, List.cons_append, List.nil_append, true_or, or_true, if_true, if_false, i10, i01, Bool.false_eq_true, ar_sw_t, ar_sw_s, se_def, sw_sw, ne_eq, not_false_eq_true, Nat.reduceEqDiff]
      rfl
  · simp only [ar_sw_t, ar_sw_s, se_def, sw_sw, ne_eq, not_false_eq_true, Nat.reduceEqDiff]; exact hn
  · simp only [ar_sw_t, ar_sw_s, se_def, sw_sw, ne_eq, not_false_eq_true, Nat.reduceEqDiff]
  · simp only [ar_sw_t, ar_sw_s, se_def, sw_sw, ne_eq, not_false_eq_true, Nat.reduceEqDiff]; exact hW
  · simp only [ar_sw_t, ar_sw_s, se_def, sw_sw, ne_eq, not_false_eq_true, Nat.reduceEqDiff]
  · rw [ar_sw_s, upd_if]
    by_cases e : c = a
    · rw [if_pos e, e, pick_0 (fun b hb => by unfold rz; rw [if_pos (by omega)])]
      rfl
    · rw [if_neg e, hF c hc]
      exact congrArg en (pick_ext (by rw [upd_n e]) (fun _ _ => rfl) (fun y hy => by unfold rz; rw [if_neg (by omega)]))
/-- some of a square's houses no longer angry at those that they front -/
def crt (n : Nat) (F : Nat → Option Nat) (B : Nat) (A : Nat → Int32) : Nat → Int32 := fun j => if j / 6 < n ∧ B.testBit (j / 6) = true ∧ F (j / 6) = some (j % 6) then 0 else A j
theorem c_endRing {a : Nat} (h6 : n ≤ 6) (ha : a < n) (h : Lv σ q n K W A) : ∃ σ', call (d + 2) 84 [vR 5 q, vI (nI a)] σ = some (some (vI (nI (rsz (pick n K W A) n a))), σ') ∧ Lv σ' q n K W (crt n (pick n K W A) (rbit (pick n K W A) n 0 (some a)) A) ∧ Ag (SA q) σ σ' := by
  have hv : ∀ a b, pick n K W A a = some b → b < n := fun a b h => pick_lt h
  obtain ⟨hn, hK, hW, hA, hF⟩ := id h
  have hB := rbit_lt (F := pick n K W A) h6 hv n 0 (some a) (by omega) (fun x h => by cases h; exact ha)
  have key : ∀ m b, b + m = n → ∀ (σ1 : St) (v5 : IV), Lv σ1 q n K W (fun j => if j / 6 < b ∧ (rbit (pick n K W A) n 0 (some a)).testBit (j / 6) = true ∧ pick n K W A (j / 6) = some (j % 6) then 0 else A j) → (∀ c, b ≤ c → c < n → ar σ1 13 q c = en (pick n K W A c)) → ∃ σ', exec (d + 2) 84 15 [vR 5 q, vI (nI a), vI (nI (rsz (pick n K W A) n a)), vI (nI (rbit (pick n K W A) n 0 (some a))), vI (nI b), v5] [] σ1 = some (some (vI (nI (rsz (pick n K W A) n a))), σ') ∧ Lv σ' q n K W (crt n (pick n K W A) (rbit (pick n K W A) n 0 (some a)) A) ∧ Ag (SA q) σ1 σ' := by
    intro m
    induction m with
    | zero =>
      intro b hb σ1 v5 h1 _
      have e : b = n := by omega
      subst e
      exact ⟨σ1, by rw [s84_15, h1.1, if_neg nlt, s84_67], h1, Ag.rf⟩
    | succ m ih =>
      intro b hb σ1 v5 h1 hc
      have e0 := hc b (Nat.le_refl b) (by omega)
      have lt1 := ltn (show b < n by omega) (by omega)
      cases c1 : (rbit (pick n K W A) n 0 (some a)).testBit b with
      | false =>
        have e1 : (fun j => if j / 6 < b + 1 ∧ (rbit (pick n K W A) n 0 (some a)).testBit (j / 6) = true ∧ pick n K W A (j / 6) = some (j % 6) then 0 else A j) = (fun j => if j / 6 < b ∧ (rbit (pick n K W A) n 0 (some a)).testBit (j / 6) = true ∧ pick n K W A (j / 6) = some (j % 6) then 0 else A j) := by
          funext j
          by_cases hj : j / 6 = b
          · rw [if_neg (fun z => by rw [hj, c1] at z; cases z.2.1), if_neg (fun z => by omega)]
          · by_cases hj2 : j / 6 < b
            · simp only [hj2, Nat.lt_succ_of_lt hj2]
            · rw [if_neg (fun z => by omega), if_neg (fun z => by omega)]
        obtain ⟨σ', g1, g2, g3⟩ := ih (b + 1) (by omega) σ1 (vI (en (pick n K W A b))) (by rw [e1]; exact h1) (fun c hc1 hc2 => hc c (by omega) hc2)
        refine ⟨σ', ?_, g2, g3⟩
        rw [s84_15, h1.1, if_pos lt1]
        simp only [s84_24, s84_31, s84_61, oob_nI (show b < 6 by omega) (by decide), cl6 (show b < 6 by omega), e0, bits_at _ hB b (show b < 6 by omega), c1, add1N, Option.bind_some, Option.toList_some, Option.toList_none, List.cons_append, List.nil_append, true_or, or_true, if_true, if_false, i10, i01, Bool.false_eq_true]
        exact g1
      | true =>
        cases c2 : pick n K W A b with
        | none =>
          have e1 : (fun j => if j / 6 < b + 1 ∧ (rbit (pick n K W A) n 0 (some a)).testBit (j / 6) = true ∧ pick n K W A (j / 6) = some (j % 6) then 0 else A j) = (fun j => if j / 6 < b ∧ (rbit (pick n K W A) n 0 (some a)).testBit (j / 6) = true ∧ pick n K W A (j / 6) = some (j % 6) then 0 else A j) := by
            funext j
            by_cases hj : j / 6 = b
            · rw [if_neg (fun z => by rw [hj, c2] at z; cases z.2.2), if_neg (fun z => by omega)]
            · by_cases hj2 : j / 6 < b
              · simp only [hj2, Nat.lt_succ_of_lt hj2]
              · rw [if_neg (fun z => by omega), if_neg (fun z => by omega)]
          obtain ⟨σ', g1, g2, g3⟩ := ih (b + 1) (by omega) σ1 (vI (-1)) (by rw [e1]; exact h1) (fun c hc1 hc2 => hc c (by omega) hc2)
          refine ⟨σ', ?_, g2, g3⟩
          rw [s84_15, h1.1, if_pos lt1]
          simp only [s84_24, s84_31, s84_43, s84_49, s84_61, oob_nI (show b < 6 by omega) (by decide), cl6 (show b < 6 by omega), e0, c2, en_none, bits_at _ hB b (show b < 6 by omega), c1, add1N, Option.bind_some, Option.toList_some, Option.toList_none, List.cons_append, List.nil_append, true_or, or_true, if_true, if_false, i10, i01, Bool.false_eq_true, c_isHouse_f h1.1 h6 (not_isH_m1 h6)]
          exact g1
        | some f =>
          have hf := hv b f c2
          obtain ⟨σ2, k1, k2, k3⟩ := c_setAnger (d := d) (x := 0) h6 (show b < n by omega) hf h1
          rw [bd_0] at k2
          have e1 : upd (fun j => if j / 6 < b ∧ (rbit (pick n K W A) n 0 (some a)).testBit (j / 6) = true ∧ pick n K W A (j / 6) = some (j % 6) then 0 else A j) (6 * b + f) 0 = (fun j => if j / 6 < b + 1 ∧ (rbit (pick n K W A) n 0 (some a)).testBit (j / 6) = true ∧ pick n K W A (j / 6) = some (j % 6) then 0 else A j) := by
            funext j
            rw [upd_if]
            by_cases hj : j = 6 * b + f
            · have x1 : j / 6 = b := by omega
              have x2 : j % 6 = f := by omega
              rw [if_pos hj, if_pos ⟨by omega, by rw [x1]; exact c1, by rw [x1, x2]; exact c2⟩]
            · rw [if_neg hj]
              by_cases hj2 : j / 6 = b
              · rw [if_neg (fun z => by omega), if_neg (fun z => by rw [hj2, c2] at z; have := z.2.2; cases this; omega)]
              · by_cases hj3 : j / 6 < b
                · simp only [hj3, Nat.lt_succ_of_lt hj3]
                · rw [if_neg (fun z => by omega), if_neg (fun z => by omega)]
          rw [e1] at k2
          have k4 : ∀ c, b + 1 ≤ c → c < n → ar σ2 13 q c = en (pick n K W A c) := by
            intro c hc1 hc2
            rw [k2.2.2.2.2 c hc2]
            exact congrArg en (pick_ext rfl (fun _ _ => rfl) (fun y hy => by rw [if_neg (by omega)]))
          obtain ⟨σ', g1, g2, g3⟩ := ih (b + 1) (by omega) σ2 (vI (nI f)) k2 k4
          refine ⟨σ', ?_, g2, k3.tr g3⟩
          rw [s84_15, h1.1, if_pos lt1]
          simp only [s84_24, s84_31, s84_43, s84_49, s84_52, s84_61, oob_nI (show b < 6 by omega) (by decide), cl6 (show b < 6 by omega), e0, c2, en_some, bits_at _ hB b (show b < 6 by omega), c1, add1N, Option.bind_some, Option.toList_some, Option.toList_none, List.cons_append, List.nil_append, true_or, or_true, if_true, if_false, i10, i01, Bool.false_eq_true, c_isHouse_t h1.1 h6 hf, k1]
          exact g1
  have e0 : (fun j => if j / 6 < 0 ∧ (rbit (pick n K W A) n 0 (some a)).testBit (j / 6) = true ∧ pick n K W A (j / 6) = some (j % 6) then 0 else A j) = A := by
    funext j
    rw [if_neg (fun z => by omega)]
  obtain ⟨σ', g1, g2, g3⟩ := key n 0 (by omega) σ vN (by rw [e0]; exact h) (fun c _ hc => hF c hc)
  refine ⟨σ', ?_, g2, g3⟩
  simp only [s84_0, s84_5, s84_11, s84_e, c_ringSize hn h6 hF hv ha, c_ringBits hn h6 hF hv ha, Option.bind_some, Option.toList_some, Option.toList_none, List.cons_append, List.nil_append, true_or, or_true, if_true, if_false, i10, i01, Bool.false_eq_true]
  exact g1
/-- what is torn, or paid, behind a morning -/
def trM (n : Nat) (p : Nat → Bool) (T : Nat → Int32) : Nat → Int32 := fun a => if a < n ∧ p a = true then T a + 1 else T a
theorem trM_t {b : Nat} {p : Nat → Bool} {T : Nat → Int32} (h : p b = true) : upd (trM b p T) b (T b + 1) = trM (b + 1) p T := by
  funext j
  rw [upd_if]
  unfold trM
  by_cases e : j = b
  · rw [if_pos e, e, if_pos ⟨by omega, h⟩]
  · rw [if_neg e]
    by_cases c : j < b ∧ p j = true
    · rw [if_pos c, if_pos ⟨by omega, c.2⟩]
    · rw [if_neg c, if_neg (fun z => c ⟨by omega, z.2⟩)]
theorem trM_f {b : Nat} {p : Nat → Bool} {T : Nat → Int32} (h : p b = false) : trM (b + 1) p T = trM b p T := by
  funext j
  unfold trM
  by_cases c : j < b ∧ p j = true
  · rw [if_pos c, if_pos ⟨by omega, c.2⟩]
  · rw [if_neg c, if_neg (fun z => c ⟨by
      have : j ≠ b := fun e => by rw [e, h] at z; cases z.2
      omega, z.2⟩)]
theorem trM_b {b : Nat} {p : Nat → Bool} {T : Nat → Int32} : trM b p T b = T b := by
  unfold trM
  rw [if_neg (fun z => by omega)]
theorem trM_0 {p : Nat → Bool} {T : Nat → Int32} : trM 0 p T = T := by
  funext j
  unfold trM
  rw [if_neg (fun z => by omega)]
noncomputable def lvM (s : Sq) : Sq := (qn s, qK s, qV s, trM (qn s) (star (qF s)) (qT s), trM (qn s) (fun a => decide (0 < rsz (qF s) (qn s) a)) (qC s), mor (qn s) (qK s) (qW s) (qA s), qW s, qm s + 1, qt s + nI (trn (qn s) (qK s) (qW s) (qA s)), qq s, qp s)
theorem c_liveMorning {s : Sq} (h6 : qn s ≤ 6) (h : SqAt σ q s) : ∃ σ', call (d + 3) 85 [vR 5 q] σ = some (some (vI (nI (trn (qn s) (qK s) (qW s) (qA s)))), σ') ∧ SqAt σ' q (lvM s) ∧ Ag (SB q) σ σ' := by
  obtain ⟨⟨hn, hK, hW, hA, hF⟩, hV, hT, hC, h8, h9, h10, h11⟩ := h
  have hv : ∀ a b, qF s a = some b → b < qn s := fun a b h => pick_lt h
  have hF' : ∀ a, a < qn s → ar σ 13 q a = en (qF s a) := hF
  have key := down0 (Pr := fun b => exec (d + 3) 85 2 [vR 5 q, vI (nI b)] [] (sw (sw σ 14 q (trM b (star (qF s)) (qT s))) 15 q (trM b (fun a => decide (0 < rsz (qF s) (qn s) a)) (qC s))) = exec (d + 3) 85 52 [vR 5 q, vI (nI (qn s))] [] (sw (sw σ 14 q (trM (qn s) (star (qF s)) (qT s))) 15 q (trM (qn s) (fun a => decide (0 < rsz (qF s) (qn s) a)) (qC s)))) (qn s) (fun b hb ih => ?_) ?_
  · have key : exec (d + 3) 85 2 [vR 5 q, vI (nI 0)] [] (sw (sw σ 14 q (trM 0 (star (qF s)) (qT s))) 15 q (trM 0 (fun a => decide (0 < rsz (qF s) (qn s) a)) (qC s))) = _ := key
    rw [trM_0, trM_0, sw_id (σ := σ) (t := 14) hT.symm, sw_id (σ := σ) (t := 15) hC.symm] at key
    have hL : Lv (se (sw (sw σ 14 q (trM (qn s) (star (qF s)) (qT s))) 15 q (trM (qn s) (fun a => decide (0 < rsz (qF s) (qn s) a)) (qC s))) 5 q 8 (nI (qm s) + 1)) q (qn s) (qK s) (qW s) (qA s) := by
      refine ⟨?_, ?_, ?_, ?_, fun a ha => ?_⟩
      · simp only [ar_sw_t, ar_sw_s, se_def, sw_sw, ne_eq, not_false_eq_true, Nat.reduceEqDiff, upd_n]; exact hn
      · simp only [ar_sw_t, ar_sw_s, se_def, sw_sw, ne_eq, not_false_eq_true, Nat.reduceEqDiff]; exact hK
      · simp only [ar_sw_t, ar_sw_s, se_def, sw_sw, ne_eq, not_false_eq_true, Nat.reduceEqDiff]; exact hW
      · simp only [ar_sw_t, ar_sw_s, se_def, sw_sw, ne_eq, not_false_eq_true, Nat.reduceEqDiff]; exact hA
      · simp only [ar_sw_t, ar_sw_s, se_def, sw_sw, ne_eq, not_false_eq_true, Nat.reduceEqDiff]; exact hF a ha
    obtain ⟨σ1, e1, l1, g1⟩ := c_changeAngers (d := d) h6 hL
    have q12 : ar σ1 12 q = ar σ 12 q := by rw [g1.1 _ _ (fun z => by rcases z.2 with z | z <;> omega)]; simp only [ar_sw_t, ar_sw_s, se_def, sw_sw, ne_eq, not_false_eq_true, Nat.reduceEqDiff]
    have q14 : ar σ1 14 q = trM (qn s) (star (qF s)) (qT s) := by rw [g1.1 _ _ (fun z => by rcases z.2 with z | z <;> omega)]; simp only [ar_sw_t, ar_sw_s, se_def, sw_sw, ne_eq, not_false_eq_true, Nat.reduceEqDiff]
    have q15 : ar σ1 15 q = trM (qn s) (fun a => decide (0 < rsz (qF s) (qn s) a)) (qC s) := by rw [g1.1 _ _ (fun z => by rcases z.2 with z | z <;> omega)]; simp only [ar_sw_t, ar_sw_s, se_def, sw_sw, ne_eq, not_false_eq_true, Nat.reduceEqDiff]
    have q5 : ar σ1 5 q = upd (ar σ 5 q) 8 (nI (qm s) + 1) := by rw [g1.1 _ _ (fun z => by rcases z.2 with z | z <;> omega)]; simp only [ar_sw_t, ar_sw_s, se_def, sw_sw, ne_eq, not_false_eq_true, Nat.reduceEqDiff]
    refine ⟨se σ1 5 q 9 (qt s + nI (trn (qn s) (qK s) (qW s) (qA s))), ?_, ⟨⟨?_, ?_, ?_, ?_, fun a ha => ?_⟩, ?_, ?_, ?_, ?_, ?_, ?_, ?_⟩, ?_⟩
    · rw [s85_e, s85_0]
      refine key.trans ?_
      rw [s85_52]
      have x8 : ar (sw (sw σ 14 q (trM (qn s) (star (qF s)) (qT s))) 15 q (trM (qn s) (fun a => decide (0 < rsz (qF s) (qn s) a)) (qC s))) 5 q 8 = nI (qm s) := by simp only [ar_sw_t, ar_sw_s, se_def, sw_sw, ne_eq, not_false_eq_true, Nat.reduceEqDiff]; exact h8
      rw [x8, e1]
      simp only [s85_66, Option.bind_some, Option.toList_some, Option.toList_none, List.cons_append, List.nil_append, true_or, or_true, if_true, if_false, i10, i01, Bool.false_eq_true, q5, upd_n, ne_eq, Nat.reduceEqDiff, not_false_eq_true, h9]
    · simp only [ar_sw_t, ar_sw_s, se_def, sw_sw, ne_eq, not_false_eq_true, Nat.reduceEqDiff, upd_n, q5]; exact hn
    · simp only [ar_sw_t, ar_sw_s, se_def, sw_sw, ne_eq, not_false_eq_true, Nat.reduceEqDiff]; exact l1.2.1
    · simp only [ar_sw_t, ar_sw_s, se_def, sw_sw, ne_eq, not_false_eq_true, Nat.reduceEqDiff]; exact l1.2.2.1
    · simp only [ar_sw_t, ar_sw_s, se_def, sw_sw, ne_eq, not_false_eq_true, Nat.reduceEqDiff]; exact l1.2.2.2.1
    · simp only [ar_sw_t, ar_sw_s, se_def, sw_sw, ne_eq, not_false_eq_true, Nat.reduceEqDiff]; exact l1.2.2.2.2 a ha
    · simp only [ar_sw_t, ar_sw_s, se_def, sw_sw, ne_eq, not_false_eq_true, Nat.reduceEqDiff]; rw [q12, hV]; rfl
    · simp only [ar_sw_t, ar_sw_s, se_def, sw_sw, ne_eq, not_false_eq_true, Nat.reduceEqDiff]; rw [q14]; rfl
    · simp only [ar_sw_t, ar_sw_s, se_def, sw_sw, ne_eq, not_false_eq_true, Nat.reduceEqDiff]; rw [q15]; rfl
    · simp only [ar_sw_t, ar_sw_s, se_def, sw_sw, ne_eq, not_false_eq_true, Nat.reduceEqDiff, upd_n, q5, upd_s, add1N]; rfl
    · simp only [ar_sw_t, ar_sw_s, se_def, sw_sw, ne_eq, not_false_eq_true, Nat.reduceEqDiff, upd_s]; rfl
    · simp only [ar_sw_t, ar_sw_s, se_def, sw_sw, ne_eq, not_false_eq_true, Nat.reduceEqDiff, upd_n, q5]; exact h10
    · simp only [ar_sw_t, ar_sw_s, se_def, sw_sw, ne_eq, not_false_eq_true, Nat.reduceEqDiff, upd_n, q5]; exact h11
    · refine ((((Ag.sw ⟨rfl, ?_⟩).tr (Ag.sw ⟨rfl, ?_⟩)).tr (Ag.sw ⟨rfl, ?_⟩)).tr (g1.SA_SB)).tr (Ag.sw ⟨rfl, ?_⟩) <;> omega
  · rw [s85_2]
    have hn2 : ar (sw (sw σ 14 q (trM b (star (qF s)) (qT s))) 15 q (trM b (fun a => decide (0 < rsz (qF s) (qn s) a)) (qC s))) 5 q 7 = nI (qn s) := by simp only [ar_sw_t, ar_sw_s, se_def, sw_sw, ne_eq, not_false_eq_true, Nat.reduceEqDiff]; exact hn
    have hF2 : ∀ a, a < qn s → ar (sw (sw σ 14 q (trM b (star (qF s)) (qT s))) 15 q (trM b (fun a => decide (0 < rsz (qF s) (qn s) a)) (qC s))) 13 q a = en (qF s a) := fun a ha => by simp only [ar_sw_t, ar_sw_s, se_def, sw_sw, ne_eq, not_false_eq_true, Nat.reduceEqDiff]; exact hF a ha
    have hF3 : ∀ a, a < qn s → ar (sw (sw σ 14 q (trM (b + 1) (star (qF s)) (qT s))) 15 q (trM b (fun a => decide (0 < rsz (qF s) (qn s) a)) (qC s))) 13 q a = en (qF s a) := fun a ha => by simp only [ar_sw_t, ar_sw_s, se_def, sw_sw, ne_eq, not_false_eq_true, Nat.reduceEqDiff]; exact hF a ha
    have hn3 : ar (sw (sw σ 14 q (trM (b + 1) (star (qF s)) (qT s))) 15 q (trM b (fun a => decide (0 < rsz (qF s) (qn s) a)) (qC s))) 5 q 7 = nI (qn s) := by simp only [ar_sw_t, ar_sw_s, se_def, sw_sw, ne_eq, not_false_eq_true, Nat.reduceEqDiff]; exact hn
    rw [hn2, if_pos (ltn hb (by omega))]
    have hrs := rgo_le (F := qF s) (a := b) (qn s) 1 b
    have s1 : exec (d + 3) 85 10 [vR 5 q, vI (nI b)] [] (sw (sw σ 14 q (trM b (star (qF s)) (qT s))) 15 q (trM b (fun a => decide (0 < rsz (qF s) (qn s) a)) (qC s))) = exec (d + 3) 85 28 [vR 5 q, vI (nI b)] [] (sw (sw σ 14 q (trM (b + 1) (star (qF s)) (qT s))) 15 q (trM b (fun a => decide (0 < rsz (qF s) (qn s) a)) (qC s))) := by
      cases c1 : star (qF s) b with
      | false =>
        rw [trM_f c1]
        simp only [s85_10, s85_15, c_isStaring hn2 h6 hF2 hv hb, c1, Option.bind_some, Option.toList_some, Option.toList_none, List.cons_append, List.nil_append, true_or, or_true, if_true, if_false, i10, i01, Bool.false_eq_true]
      | true =>
        rw [← trM_t c1]
        simp only [s85_10, s85_15, s85_18, s85_25, c_isStaring hn2 h6 hF2 hv hb, c1, Option.bind_some, Option.toList_some, Option.toList_none, List.cons_append, List.nil_append, true_or, or_true, if_true, if_false, i10, i01, Bool.false_eq_true, ar_sw_t, ar_sw_s, se_def, sw_sw, ne_eq, not_false_eq_true, Nat.reduceEqDiff, oob_nI (show b < 6 by omega) (by decide), cl6 (show b < 6 by omega), trM_b]
        congr 1
        refine Prod.ext ?_ rfl
        funext t q'
        simp only [sw]
        by_cases x1 : t = 14
        · subst x1; by_cases x3 : q' = q <;> simp [x3]
        · by_cases x2 : t = 15
          · subst x2; by_cases x3 : q' = q <;> simp [x3]
          · simp [x1, x2]
    rw [s1]
    by_cases c2 : 0 < rsz (qF s) (qn s) b
    · have e2 : 0 < nI (rsz (qF s) (qn s) b) := ltn (b := 0) c2 (by unfold rsz; omega)
      rw [← trM_t (p := fun a => decide (0 < rsz (qF s) (qn s) a)) (decide_eq_true c2)] at ih
      simp only [s85_28, s85_33, s85_36, s85_43, s85_46, c_ringSize hn3 h6 hF3 hv hb, e2, Option.bind_some, Option.toList_some, Option.toList_none, List.cons_append, List.nil_append, true_or, or_true, if_true, if_false, i10, i01, Bool.false_eq_true, ar_sw_t, ar_sw_s, se_def, sw_sw, ne_eq, not_false_eq_true, Nat.reduceEqDiff, oob_nI (show b < 6 by omega) (by decide), cl6 (show b < 6 by omega), trM_b, add1N]
      exact ih
    · have e2 : ¬ (0 : Int32) < nI (rsz (qF s) (qn s) b) := by rw [show rsz (qF s) (qn s) b = 0 by omega]; exact nlt (n := 0)
      rw [trM_f (p := fun a => decide (0 < rsz (qF s) (qn s) a)) (decide_eq_false c2)] at ih
      simp only [s85_28, s85_33, s85_46, c_ringSize hn3 h6 hF3 hv hb, e2, Option.bind_some, Option.toList_some, Option.toList_none, List.cons_append, List.nil_append, true_or, or_true, if_true, if_false, i10, i01, Bool.false_eq_true, add1N]
      exact ih
  · rw [s85_2]
    have hn2 : ar (sw (sw σ 14 q (trM (qn s) (star (qF s)) (qT s))) 15 q (trM (qn s) (fun a => decide (0 < rsz (qF s) (qn s) a)) (qC s))) 5 q 7 = nI (qn s) := by simp only [ar_sw_t, ar_sw_s, se_def, sw_sw, ne_eq, not_false_eq_true, Nat.reduceEqDiff]; exact hn
    rw [hn2, if_neg nlt]
theorem c_copyFrom {q' : Nat} (hq : q ≠ q') : ∃ σ', call d 49 [vR 5 q, vR 5 q'] σ = some (none, σ') ∧ (∀ t, 11 ≤ t → t ≤ 17 → ar σ' t q = ar σ t q') ∧ (∀ j, 7 ≤ j → j ≤ 11 → ar σ' 5 q j = ar σ 5 q' j) ∧ Ag (SB q) σ σ' := by
  have hq' := Ne.symm hq
  refine ⟨_, by rw [s49_e, s49_0, s49_15, s49_30, s49_45, s49_60, s49_75, s49_90, s49_105], fun t h1 h2 => ?_, fun j h1 h2 => ?_, ?_⟩
  · have : t = 11 ∨ t = 12 ∨ t = 13 ∨ t = 14 ∨ t = 15 ∨ t = 16 ∨ t = 17 := by omega
    rcases this with rfl | rfl | rfl | rfl | rfl | rfl | rfl <;> simp only [ar_sw_t, ar_sw_s, se_def, sw_sw, ne_eq, not_false_eq_true, Nat.reduceEqDiff]
  · have : j = 7 ∨ j = 8 ∨ j = 9 ∨ j = 10 ∨ j = 11 := by omega
    rcases this with rfl | rfl | rfl | rfl | rfl <;> simp [ar_sw_t, ar_sw_s, se_def, sw_sw, ne_eq, not_false_eq_true, Nat.reduceEqDiff, upd_n, upd_s, ar_sw_q hq']
  · refine (((((((((((Ag.sw ⟨rfl, ?_⟩).tr (Ag.sw ⟨rfl, ?_⟩)).tr (Ag.sw ⟨rfl, ?_⟩)).tr (Ag.sw ⟨rfl, ?_⟩)).tr (Ag.sw ⟨rfl, ?_⟩)).tr (Ag.sw ⟨rfl, ?_⟩)).tr (Ag.sw ⟨rfl, ?_⟩)).tr (Ag.sw ⟨rfl, ?_⟩)).tr (Ag.sw ⟨rfl, ?_⟩)).tr (Ag.sw ⟨rfl, ?_⟩)).tr (Ag.sw ⟨rfl, ?_⟩)).tr (Ag.sw ⟨rfl, ?_⟩) <;> omega
theorem c_copyLv {q' : Nat} (hq : q ≠ q') (h : Lv σ q' n K W A) : ∃ σ', call d 49 [vR 5 q, vR 5 q'] σ = some (none, σ') ∧ Lv σ' q n K W A ∧ Ag (SB q) σ σ' := by
  obtain ⟨σ', e, h1, h2, g⟩ := c_copyFrom (d := d) (σ := σ) hq
  obtain ⟨hn, hK, hW, hA, hF⟩ := h
  exact ⟨σ', e, ⟨by rw [h2 7 (by omega) (by omega)]; exact hn, by rw [h1 11 (by omega) (by omega)]; exact hK, by rw [h1 17 (by omega) (by omega)]; exact hW, by rw [h1 16 (by omega) (by omega)]; exact hA, fun a ha => by rw [h1 13 (by omega) (by omega)]; exact hF a ha⟩, g⟩
theorem c_copySq {q' : Nat} {s : Sq} (hq : q ≠ q') (h : SqAt σ q' s) : ∃ σ', call d 49 [vR 5 q, vR 5 q'] σ = some (none, σ') ∧ SqAt σ' q s ∧ Ag (SB q) σ σ' := by
  obtain ⟨σ', e, h1, h2, g⟩ := c_copyFrom (d := d) (σ := σ) hq
  obtain ⟨⟨hn, hK, hW, hA, hF⟩, hV, hT, hC, h8, h9, h10, h11⟩ := h
  exact ⟨σ', e, ⟨⟨by rw [h2 7 (by omega) (by omega)]; exact hn, by rw [h1 11 (by omega) (by omega)]; exact hK, by rw [h1 17 (by omega) (by omega)]; exact hW, by rw [h1 16 (by omega) (by omega)]; exact hA, fun a ha => by rw [h1 13 (by omega) (by omega)]; exact hF a ha⟩, by rw [h1 12 (by omega) (by omega)]; exact hV, by rw [h1 14 (by omega) (by omega)]; exact hT, by rw [h1 15 (by omega) (by omega)]; exact hC, by rw [h2 8 (by omega) (by omega)]; exact h8, by rw [h2 9 (by omega) (by omega)]; exact h9, by rw [h2 10 (by omega) (by omega)]; exact h10, by rw [h2 11 (by omega) (by omega)]; exact h11⟩, g⟩
end SQ4

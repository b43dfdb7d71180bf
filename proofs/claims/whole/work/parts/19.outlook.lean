/-! Outlook. -/
/-- what would-be squares and their keepers use -/
def Scr : Nat → Nat → Prop := fun t q => (t = 0 ∨ t = 1 ∨ t = 3 ∨ (21 ≤ t ∧ t ≤ 26)) ∨ ((t = 5 ∨ (11 ≤ t ∧ t ≤ 17)) ∧ 2 ≤ q)
theorem Ag.SB_Scr {σ σ' : St} {q : Nat} (hq : 2 ≤ q) (h : Ag (SB q) σ σ') : Ag Scr σ σ' := h.mono (fun t q' h => Or.inr ⟨h.2, by rw [h.1]; exact hq⟩)
theorem Ag.SA_Scr {σ σ' : St} {q : Nat} (hq : 2 ≤ q) (h : Ag (SA q) σ σ') : Ag Scr σ σ' := h.SA_SB.SB_Scr hq
theorem Lv.ag {S : Nat → Nat → Prop} {σ σ' : St} {q n : Nat} {K W A : Nat → Int32} (h : Lv σ q n K W A) (hg : Ag S σ σ') (hs : ∀ t, (t = 5 ∨ (11 ≤ t ∧ t ≤ 17)) → ¬ S t q) : Lv σ' q n K W A := by
  obtain ⟨hn, hK, hW, hA, hF⟩ := h
  exact ⟨by rw [hg.1 _ _ (hs 5 (by omega))]; exact hn, by rw [hg.1 _ _ (hs 11 (by omega))]; exact hK, by rw [hg.1 _ _ (hs 17 (by omega))]; exact hW, by rw [hg.1 _ _ (hs 16 (by omega))]; exact hA, fun a ha => by rw [hg.1 _ _ (hs 13 (by omega))]; exact hF a ha⟩
theorem Scr_0 : ∀ t, (t = 5 ∨ (11 ≤ t ∧ t ≤ 17)) → ¬ Scr t 0 := fun t h z => by unfold Scr at z; omega
theorem SB_ne {q q' : Nat} (h : q' ≠ q) : ∀ t, (t = 5 ∨ (11 ≤ t ∧ t ≤ 17)) → ¬ SB q t q' := fun t _ z => h z.1
section OL
variable {d : Nat} {σ : St} {n : Nat} {K W A : Nat → Int32}
theorem morN_succ : ∀ (m : Nat) (A : Nat → Int32), morN n K W (m + 1) A = mor n K W (morN n K W m A)
  | 0, _ => rfl
  | m + 1, A => by rw [morN, morN_succ m, morN]
theorem trn_le : trn n K W A ≤ n := cn_le n
/-- where it settles: t tells whether a window turns on the morning behind so many -/
def stg (t : Nat → Bool) : Nat → Nat → Nat → Option Nat
  | 0, _, _ => none
  | f + 1, m, l => if m - (if t (m - 1) = true then m else l) = 20 then some (if t (m - 1) = true then m else l) else stg t f (m + 1) (if t (m - 1) = true then m else l)
noncomputable def tns (n : Nat) (K W A : Nat → Int32) (m : Nat) : Bool := decide (0 < trn n K W (morN n K W m A))
noncomputable def stl (n : Nat) (K W A : Nat → Int32) : Option Nat := stg (tns n K W A) 60 1 0
def stM : Option Nat → Nat
  | none => 60
  | some l => l + 20
theorem l_settle (h6 : n ≤ 6) : ∀ f m l, m + f = 61 → 1 ≤ m → l < m → m - 1 - l < 20 → ∀ σ : St, Lv σ 2 n K W (morN n K W (m - 1) A) → ar σ 1 0 1 = -1 → ∃ σ', exec (d + 4) 6 17 [vR 1 0, vR 5 0, vI (nI l), vI (nI m)] [] σ = some (none, σ') ∧ ar σ' 1 0 1 = en (stg (tns n K W A) f m l) ∧ Lv σ' 2 n K W (morN n K W (stM (stg (tns n K W A) f m l)) A) ∧ Ag Scr σ σ' := by
  intro f
  induction f with
  | zero =>
    intro m l hm h1 hl hml σ hL hs
    have e : m = 61 := by omega
    subst e
    refine ⟨σ, ?_, hs, hL, Ag.rf⟩
    rw [s6_17, show (60 : Int32) = nI 60 from rfl, if_pos (ltn (by omega) (by omega)), s6_55]
  | succ f ih =>
    intro m l hm h1 hl hml σ hL hs
    obtain ⟨σ1, e1, hL1, g1⟩ := c_changeAngers (d := d + 1) h6 hL
    rw [← morN_succ, show m - 1 + 1 = m by omega] at hL1
    have hs1 : ar σ1 1 0 1 = -1 := by rw [g1.1 _ _ (fun z => by have := z.1; omega)]; exact hs
    have e60 : ¬ (60 : Int32) < nI m := by rw [show (60 : Int32) = nI 60 from rfl, ltN (by omega) (by omega)]; omega
    have etr : ((0 : Int32) < nI (trn n K W (morN n K W (m - 1) A))) = (tns n K W A (m - 1) = true) := by
      have := trn_le (n := n) (K := K) (W := W) (A := morN n K W (m - 1) A)
      rw [show (0 : Int32) = nI 0 from rfl, ltN (by omega) (by omega)]
      unfold tns
      rw [decide_eq_true_eq]
    have first : ∀ X, exec (d + 4) 6 35 [vR 1 0, vR 5 0, vI (nI (if tns n K W A (m - 1) = true then m else l)), vI (nI m)] [] σ1 = X → exec (d + 4) 6 17 [vR 1 0, vR 5 0, vI (nI l), vI (nI m)] [] σ = X := by
      intro X hX
      cases ht : tns n K W A (m - 1) with
      | false =>
        rw [ht] at hX etr
        simp only [s6_17, s6_23, s6_30, e60, e1, etr, Option.bind_some, Option.toList_some, Option.toList_none, List.cons_append, List.nil_append, true_or, or_true, if_true, if_false, i10, i01, Bool.false_eq_true]
        exact hX
      | true =>
        rw [ht] at hX etr
        simp only [s6_17, s6_23, s6_30, s6_33, e60, e1, etr, Option.bind_some, Option.toList_some, Option.toList_none, List.cons_append, List.nil_append, true_or, or_true, if_true, if_false, i10, i01, Bool.false_eq_true]
        exact hX
    obtain ⟨l', hl'⟩ : ∃ x, x = (if tns n K W A (m - 1) = true then m else l) := ⟨_, rfl⟩
    have hlm : l' ≤ m ∧ m - l' ≤ 20 := by rw [hl']; split <;> omega
    rw [stg, ← hl']
    rw [← hl'] at first
    have esub : (nI m - nI l' = 20) = (m - l' = 20) := by rw [pk_sub hlm.1, show (20 : Int32) = nI 20 from rfl, eqN (by omega) (by omega)]
    by_cases c1 : m - l' = 20
    · rw [if_pos c1]
      refine ⟨se σ1 1 0 1 (nI l'), first _ ?_, ?_, ?_, (g1.SA_Scr (by omega)).tr (Ag.sw (by unfold Scr; omega))⟩
      · simp only [s6_35, s6_43, esub.trans (eq_true c1), Option.bind_some, Option.toList_some, Option.toList_none, List.cons_append, List.nil_append, true_or, or_true, if_true, if_false, i10, i01, Bool.false_eq_true]
      · simp only [ar_sw_t, ar_sw_s, se_def, sw_sw, ne_eq, not_false_eq_true, Nat.reduceEqDiff, upd_s]; rfl
      · have hm2 : stM (some l') = m := by show l' + 20 = m; omega
        rw [hm2]
        exact hL1.ag (S := fun t _ => t = 1) (Ag.sw rfl) (fun t ht (z : t = 1) => by omega)
    · rw [if_neg c1]
      obtain ⟨σ2, e2, s2, L2, g2⟩ := ih (m + 1) l' (by omega) (by omega) (by omega) (by omega) σ1 (by rw [show m + 1 - 1 = m by omega]; exact hL1) hs1
      refine ⟨σ2, first _ ?_, s2, L2, (g1.SA_Scr (by omega)).tr g2⟩
      simp only [s6_35, s6_49, esub.trans (eq_false c1), Option.bind_some, Option.toList_some, Option.toList_none, List.cons_append, List.nil_append, true_or, or_true, if_true, if_false, i10, i01, Bool.false_eq_true, add1N]
      exact e2
theorem c_settle (h6 : n ≤ 6) (h : Lv σ 0 n K W A) : ∃ σ', call (d + 4) 6 [vR 1 0, vR 5 0] σ = some (none, σ') ∧ ar σ' 1 0 1 = en (stl n K W A) ∧ Lv σ' 2 n K W (morN n K W (stM (stl n K W A)) A) ∧ Ag Scr σ σ' := by
  obtain ⟨σ1, e1, L1, g1⟩ := c_copyLv (d := d + 3) (σ := σ) (q := 2) (q' := 0) (by decide) h
  obtain ⟨σ2, e2, s2, L2, g2⟩ := l_settle (d := d) h6 60 1 0 (by omega) (by omega) (by omega) (by omega) (se σ1 1 0 1 (-1)) (L1.ag (S := fun t _ => t = 1) (Ag.sw rfl) (fun t ht (z : t = 1) => by omega)) (by simp only [ar_sw_t, ar_sw_s, se_def, sw_sw, ne_eq, not_false_eq_true, Nat.reduceEqDiff, upd_s])
  refine ⟨σ2, ?_, s2, L2, ((g1.SB_Scr (by omega)).tr (Ag.sw (by unfold Scr; omega))).tr g2⟩
  simp only [s6_e, s6_0, s6_8, e1, Option.bind_some, Option.toList_some, Option.toList_none, List.cons_append, List.nil_append, true_or, or_true, if_true, if_false, i10, i01, Bool.false_eq_true]
  exact e2
/-- no window turns: all front as they did -/
theorem trn_0 {a : Nat} (h : trn n K W A = 0) (ha : a < n) : pick n K W (mor n K W A) a = pick n K W A a := by
  have : ∀ (p : Nat → Bool) (m : Nat), cn p m = 0 → ∀ a, a < m → p a = false := by
    intro p m
    induction m with
    | zero => intro _ a ha; omega
    | succ m ih =>
      intro h a ha
      rw [cn] at h
      split at h
      · omega
      · rename_i hp
        by_cases e : a = m
        · rw [e]; simpa using hp
        · exact ih h a (by omega)
  have := this _ _ h a ha
  simpa using this
theorem stg_some {t : Nat → Bool} : ∀ {f m l l' : Nat}, 1 ≤ m → l < m → (∀ j, l ≤ j → j < m - 1 → t j = false) → stg t f m l = some l' → l ≤ l' ∧ ∀ j, l' ≤ j → j < l' + 20 → t j = false
  | 0, m, l, l', _, _, _, h => by cases h
  | f + 1, m, l, l', hm, hl, ht, h => by
    rw [stg] at h
    cases c : t (m - 1) with
    | true =>
      rw [c] at h
      simp only [if_true, Nat.sub_self, show ¬ (0 = 20) by omega, if_false] at h
      obtain ⟨h1, h2⟩ := stg_some (f := f) (m := m + 1) (l := m) (by omega) (by omega) (fun j h1 h2 => by omega) h
      exact ⟨by omega, h2⟩
    | false =>
      rw [c] at h
      simp only [Bool.false_eq_true, if_false] at h
      have ht' : ∀ j, l ≤ j → j < m → t j = false := fun j h1 h2 => by
        by_cases e : j = m - 1
        · rw [e]; exact c
        · exact ht j h1 (by omega)
      by_cases c2 : m - l = 20
      · rw [if_pos c2] at h
        cases h
        exact ⟨Nat.le_refl _, fun j h1 h2 => ht' j h1 (by omega)⟩
      · rw [if_neg c2] at h
        exact stg_some (f := f) (m := m + 1) (l := l) (by omega) (by omega) (fun j h1 h2 => ht' j h1 (by omega)) h
theorem stl_same {l a : Nat} (h : stl n K W A = some l) (ha : a < n) : pick n K W (morN n K W (l + 20) A) a = pick n K W (morN n K W l A) a := by
  have hq := (stg_some (by omega) (by omega) (fun j h1 h2 => by omega) h).2
  have : ∀ k, k ≤ 20 → pick n K W (morN n K W (l + k) A) a = pick n K W (morN n K W l A) a := by
    intro k
    induction k with
    | zero => intro _; rfl
    | succ k ih =>
      intro hk
      rw [← ih (by omega), show l + (k + 1) = l + k + 1 by omega, morN_succ]
      have := hq (l + k) (by omega) (by omega)
      unfold tns at this
      rw [decide_eq_false_iff_not] at this
      exact trn_0 (by omega) ha
  exact this 20 (by omega)
/-- what is told of where it settles -/
noncomputable def stA (n : Nat) (K W A : Nat → Int32) (x : Nat) : Int32 := match stl n K W A with
  | none => -1
  | some l => if x = 0 then nI l else if x - 10 < n then en (pick n K W (morN n K W l A) (x - 10)) else -1
theorem stl_le {l : Nat} (h : stl n K W A = some l) : l ≤ 40 := by
  have : ∀ f m l l', stg (tns n K W A) f m l = some l' → m + f = 61 → l < m → l' + 20 ≤ 60 := by
    intro f
    induction f with
    | zero => intro m l l' h; cases h
    | succ f ih =>
      intro m l l' h hm hl
      rw [stg] at h
      obtain ⟨y, hy⟩ : ∃ y, y = (if tns n K W A (m - 1) = true then m else l) := ⟨_, rfl⟩
      have hym : y ≤ m := by rw [hy]; split <;> omega
      rw [← hy] at h
      by_cases hc : m - y = 20
      · rw [if_pos hc] at h
        cases h
        omega
      · rw [if_neg hc] at h
        exact ih _ _ _ h (by omega) (by omega)
  have := this 60 1 0 l h (by omega) (by omega)
  omega
theorem c_settled {x : Nat} (h6 : n ≤ 6) (h1 : ar σ 1 0 1 = en (stl n K W A)) (h2 : Lv σ 2 n K W (morN n K W (stM (stl n K W A)) A)) (hx : x = 0 ∨ (10 ≤ x ∧ x ≤ 15)) : call (d + 1) 7 [vR 1 0, vI (nI x)] σ = some (some (vI (stA n K W A x)), σ) := by
  unfold stA
  cases hs : stl n K W A with
  | none =>
    rw [hs, en_none] at h1
    simp only [s7_e, s7_0, s7_8, s7_12, s7_17, s7_30, s7_33, s7_41, s7_44, s7_45, h1, Option.bind_some, Option.toList_some, Option.toList_none, List.cons_append, List.nil_append, true_or, or_true, if_true, if_false, i10, i01, Bool.false_eq_true]
  | some l =>
    rw [hs] at h1 h2
    rw [en_some] at h1
    have hl := stl_le hs
    by_cases c0 : x = 0
    · subst c0
      have e0 : nI 0 = 0 := rfl
      simp only [s7_e, s7_0, s7_8, s7_12, s7_17, s7_30, s7_33, s7_41, s7_44, s7_45, h1, e0, n1N (show l ≤ 100000 by omega), Option.bind_some, Option.toList_some, Option.toList_none, List.cons_append, List.nil_append, true_or, or_true, if_true, if_false, i10, i01, Bool.false_eq_true]
    · have c1 : 10 ≤ x ∧ x ≤ 15 := by omega
      have e0 : ¬ nI x = 0 := by rw [show (0 : Int32) = nI 0 from rfl, eqN (by omega) (by omega)]; exact c0
      have e1 : nI x - 10 = nI (x - 10) := by rw [show (10 : Int32) = nI 10 from rfl, pk_sub (by omega)]
      dsimp only
      rw [if_neg c0]
      by_cases c2 : x - 10 < n
      · rw [if_pos c2, ← stl_same hs c2]
        have hf := h2.2.2.2.2 (x - 10) c2
        simp only [s7_e, s7_0, s7_8, s7_12, s7_17, s7_30, s7_33, s7_41, s7_44, s7_45, h1, e0, e1, n1N (show l ≤ 100000 by omega), c_isHouse_t h2.1 h6 c2, c_frontOf (show x - 10 < 6 by omega), hf, Option.bind_some, Option.toList_some, Option.toList_none, List.cons_append, List.nil_append, true_or, or_true, if_true, if_false, i10, i01, Bool.false_eq_true]
        rfl
      · rw [if_neg c2]
        have hh : ¬ isH n (nI (x - 10)) := by
          rintro ⟨a, ha, he⟩
          rw [eqN (by omega) (by omega)] at he
          omega
        simp only [s7_e, s7_0, s7_8, s7_12, s7_17, s7_30, s7_33, s7_41, s7_44, s7_45, h1, e0, e1, n1N (show l ≤ 100000 by omega), c_isHouse_f h2.1 h6 hh, Option.bind_some, Option.toList_some, Option.toList_none, List.cons_append, List.nil_append, true_or, or_true, if_true, if_false, i10, i01, Bool.false_eq_true]
/-- the least quarrel that turns a window -/
noncomputable def grd (n : Nat) (K W A : Nat → Int32) (a b m : Nat) : Nat → Nat → Option Nat
  | 0, _ => none
  | f + 1, by_ => if pick n K W (morN n K W m (upd A (6 * a + b) (bd (A (6 * a + b) + nI by_)))) a = some b then some by_ else grd n K W A a b m f (by_ + 1)
theorem c_leastGrudge {a b m : Nat} (h6 : n ≤ 6) (ha : a < n) (hb : b < n) (hm : m ≤ 1000) (h : Lv σ 0 n K W A) : ∃ σ', call (d + 4) 8 [vR 1 0, vR 5 0, vI (nI a), vI (nI b), vI (nI m)] σ = some (some (vI (en (grd n K W A a b m 9 1))), σ') ∧ Ag Scr σ σ' := by
  have key : ∀ f x, x + f = 10 → ∀ σ : St, Lv σ 0 n K W A → ∃ σ', exec (d + 4) 8 3 [vR 1 0, vR 5 0, vI (nI a), vI (nI b), vI (nI m), vI (nI x)] [] σ = some (some (vI (en (grd n K W A a b m f x))), σ') ∧ Ag Scr σ σ' := by
    intro f
    induction f with
    | zero =>
      intro x hx σ h
      have e : x = 10 := by omega
      subst e
      exact ⟨σ, by rw [s8_3, show (9 : Int32) = nI 9 from rfl, if_pos (ltn (by omega) (by omega)), s8_59]; rfl, Ag.rf⟩
    | succ f ih =>
      intro x hx σ h
      obtain ⟨σ1, e1, L1, g1⟩ := c_copyLv (d := d + 3) (σ := σ) (q := 2) (q' := 0) (by decide) h
      obtain ⟨σ2, e2, L2, g2⟩ := c_provoke (d := d + 1) (x := nI x) h6 ha hb L1
      obtain ⟨σ3, e3, L3, g3⟩ := c_letPass (d := d) h6 m hm σ2 _ L2
      have g : Ag Scr σ σ3 := ((g1.SB_Scr (by omega)).tr (g2.SA_Scr (by omega))).tr (g3.SA_Scr (by omega))
      have e9 : ¬ (9 : Int32) < nI x := by rw [show (9 : Int32) = nI 9 from rfl, ltN (by omega) (by omega)]; omega
      have hf := L3.2.2.2.2 a ha
      have e4 := en_eq (o := pick n K W (morN n K W m (upd A (6 * a + b) (bd (A (6 * a + b) + nI x)))) a) (a := b) (by omega) (fun c h => by have := pick_lt h; omega)
      rw [grd]
      by_cases c1 : pick n K W (morN n K W m (upd A (6 * a + b) (bd (A (6 * a + b) + nI x)))) a = some b
      · rw [if_pos c1]
        refine ⟨σ3, ?_, g⟩
        simp only [s8_3, s8_10, s8_18, s8_29, s8_38, s8_46, s8_50, e9, e1, e2, e3, c_frontOf (show a < 6 by omega), hf, e4.trans (eq_true c1), Option.bind_some, Option.toList_some, Option.toList_none, List.cons_append, List.nil_append, true_or, or_true, if_true, if_false, i10, i01, Bool.false_eq_true]
        rfl
      · rw [if_neg c1]
        obtain ⟨σ4, e5, g5⟩ := ih (x + 1) (by omega) σ3 (h.ag g Scr_0)
        refine ⟨σ4, ?_, g.tr g5⟩
        rw [s8_3]
        simp only [s8_10, s8_18, s8_29, s8_38, s8_46, s8_53, e9, e1, e2, e3, c_frontOf (show a < 6 by omega), hf, e4.trans (eq_false c1), Option.bind_some, Option.toList_some, Option.toList_none, List.cons_append, List.nil_append, true_or, or_true, if_true, if_false, i10, i01, Bool.false_eq_true, add1N]
        exact e5
  obtain ⟨σ', e, g⟩ := key 9 1 (by omega) σ h
  exact ⟨σ', by rw [s8_e, s8_0]; exact e, g⟩
/-- walls: how many at the river behind so many mornings -/
noncomputable def rvc (n : Nat) (K W A : Nat → Int32) (m : Nat) : Nat := cn (fun a => decide (pick n K W (morN n K W m A) a = none)) n
def wup (W : Nat → Int32) (a b : Nat) (w : Int32) : Nat → Int32 := upd (upd W (6 * a + b) w) (6 * b + a) w
noncomputable def fwl (n : Nat) (K W A : Nat → Int32) (m : Nat) : Nat → Option Nat × Nat
  | 0 => (none, rvc n K W A m)
  | p + 1 => if hip p < n ∧ W (6 * lop p + hip p) = 0 ∧ (fwl n K W A m p).2 < rvc n K (wup W (lop p) (hip p) 1) A m then (some p, rvc n K (wup W (lop p) (hip p) 1) A m) else fwl n K W A m p
theorem rvc_le {m : Nat} : rvc n K W A m ≤ n := cn_le n
theorem fwl_le {m : Nat} : ∀ p, (fwl n K W A m p).2 ≤ n ∧ ∀ x, (fwl n K W A m p).1 = some x → x < p
  | 0 => ⟨rvc_le, fun x h => by cases h⟩
  | p + 1 => by
    rw [fwl]
    split
    · exact ⟨rvc_le, fun x h => by cases h; omega⟩
    · exact ⟨(fwl_le p).1, fun x h => by have := (fwl_le p).2 x h; omega⟩
theorem c_weighWall {p x : Nat} {o : Option Nat} {r : Nat} (hp : p ≤ 1000) (hx : x ≤ 1000) (hr : r ≤ 1000) (h2 : ar σ 1 0 2 = en o) (h3 : ar σ 1 0 3 = nI r) : ∃ σ', call d 10 [vR 1 0, vI (nI p), vI (nI x)] σ = some (none, σ') ∧ ar σ' 1 0 2 = en (if r < x then some p else o) ∧ ar σ' 1 0 3 = nI (if r < x then x else r) ∧ Ag (fun t q => t = 1 ∧ q = 0) σ σ' := by
  have e1 : (nI r < nI x) = (r < x) := ltN (by omega) (by omega)
  by_cases c1 : r < x
  · refine ⟨se (se σ 1 0 2 (nI p)) 1 0 3 (nI x), ?_, ?_, ?_, (Ag.sw ⟨rfl, rfl⟩).tr (Ag.sw ⟨rfl, rfl⟩)⟩
    · simp only [s10_e, s10_0, s10_8, s10_18, h3, e1.trans (eq_true c1), Option.bind_some, Option.toList_some, Option.toList_none, List.cons_append, List.nil_append, true_or, or_true, if_true, if_false, i10, i01, Bool.false_eq_true]
    · simp only [ar_sw_t, ar_sw_s, se_def, sw_sw, ne_eq, not_false_eq_true, Nat.reduceEqDiff, upd_n, upd_s, if_pos c1]; rfl
    · simp only [ar_sw_t, ar_sw_s, se_def, sw_sw, ne_eq, not_false_eq_true, Nat.reduceEqDiff, upd_s, if_pos c1]
  · refine ⟨σ, ?_, ?_, ?_, Ag.rf⟩
    · simp only [s10_e, s10_0, s10_8, s10_18, h3, e1.trans (eq_false c1), Option.bind_some, Option.toList_some, Option.toList_none, List.cons_append, List.nil_append, true_or, or_true, if_true, if_false, i10, i01, Bool.false_eq_true]
    · rw [if_neg c1]; exact h2
    · rw [if_neg c1]; exact h3
theorem c_river {q : Nat} (h6 : n ≤ 6) (h : Lv σ q n K W A) : call d 70 [vR 5 q] σ = some (some (vI (nI (cn (fun a => decide (pick n K W A a = none)) n))), σ) := c_countAtRiver h.1 h6 h.2.2.2.2 (fun a b h => pick_lt h)
theorem lop6 : ∀ p, p < 15 → lop p < 6 ∧ hip p < 6 := by decide
theorem c_findWall {m : Nat} (h6 : n ≤ 6) (hm : m ≤ 1000) (h : Lv σ 0 n K W A) : ∃ σ', call (d + 4) 9 [vR 1 0, vR 5 0, vI (nI m)] σ = some (none, σ') ∧ ar σ' 1 0 2 = en (fwl n K W A m 15).1 ∧ ar σ' 1 0 3 = nI (fwl n K W A m 15).2 ∧ Ag Scr σ σ' := by
  have key : ∀ f p, p + f = 15 → ∀ (σ : St) (v4 v5 : IV), Lv σ 0 n K W A → ar σ 1 0 2 = en (fwl n K W A m p).1 → ar σ 1 0 3 = nI (fwl n K W A m p).2 → ∃ σ', exec (d + 4) 9 34 [vR 1 0, vR 5 0, vI (nI m), vI (nI p), v4, v5] [] σ = some (none, σ') ∧ ar σ' 1 0 2 = en (fwl n K W A m 15).1 ∧ ar σ' 1 0 3 = nI (fwl n K W A m 15).2 ∧ Ag Scr σ σ' := by
    intro f
    induction f with
    | zero =>
      intro p hp σ v4 v5 h h2 h3
      have e : p = 15 := by omega
      subst e
      exact ⟨σ, by rw [s9_34, show (15 : Int32) = nI 15 from rfl, if_neg nlt, s9_122], h2, h3, Ag.rf⟩
    | succ f ih =>
      intro p hp σ v4 v5 h h2 h3
      obtain ⟨hlh, hh6⟩ := lop_lt p (by omega)
      have e15 : nI p < 15 := by rw [show (15 : Int32) = nI 15 from rfl]; exact ltn (by omega) (by omega)
      have i15 := oob_nI (show p < 15 by omega) (by decide)
      have j15 := clN (show p ≤ 100000 by omega)
      have skip : ∀ σ1, Lv σ1 0 n K W A → Ag Scr σ σ1 → ar σ1 1 0 2 = en (fwl n K W A m (p + 1)).1 → ar σ1 1 0 3 = nI (fwl n K W A m (p + 1)).2 → exec (d + 4) 9 34 [vR 1 0, vR 5 0, vI (nI m), vI (nI p), v4, v5] [] σ = exec (d + 4) 9 34 [vR 1 0, vR 5 0, vI (nI m), vI (nI (p + 1)), vI (nI (lop p)), vI (nI (hip p))] [] σ1 → ∃ σ', exec (d + 4) 9 34 [vR 1 0, vR 5 0, vI (nI m), vI (nI p), v4, v5] [] σ = some (none, σ') ∧ ar σ' 1 0 2 = en (fwl n K W A m 15).1 ∧ ar σ' 1 0 3 = nI (fwl n K W A m 15).2 ∧ Ag Scr σ σ' := by
        intro σ1 hL g k2 k3 e
        obtain ⟨σ2, e2, x2, x3, g2⟩ := ih (p + 1) (by omega) σ1 _ _ hL k2 k3
        exact ⟨σ2, e.trans e2, x2, x3, g.tr g2⟩
      by_cases c1 : hip p < n
      · have ht := c_areTwo_t (d := d + 2) h.1 h6 (show lop p < n by omega) c1 (show lop p ≠ hip p by omega)
        have hw := c_wallBetween (d := d + 2) (σ := σ) (q := 0) (show lop p < 6 by omega) hh6
        rw [h.2.2.1] at hw
        by_cases c2 : W (6 * lop p + hip p) = 0
        · obtain ⟨σ1, e1, L1, g1⟩ := c_copyLv (d := d + 3) (σ := σ) (q := 2) (q' := 0) (by decide) h
          obtain ⟨σ2, e2, L2, g2⟩ := c_setWall (d := d + 2) (w := 1) h6 (show lop p < n by omega) c1 L1
          obtain ⟨σ3, e3, L3, g3⟩ := c_letPass (d := d) h6 m hm σ2 _ L2
          have gA : Ag Scr σ σ3 := ((g1.SB_Scr (by omega)).tr (g2.mono (fun t q' h => Or.inr ⟨by omega, by omega⟩))).tr (g3.SA_Scr (by omega))
          have gB : Ag (SB 2) σ σ3 := (g1.tr (g2.mono (fun t q' h => ⟨h.1, by omega⟩))).tr g3.SA_SB
          have e4 := c_river (d := d + 3) h6 L3
          have h2' : ar σ3 1 0 2 = en (fwl n K W A m p).1 := by rw [gB.1 _ _ (fun z => by unfold SB at z; omega)]; exact h2
          have h3' : ar σ3 1 0 3 = nI (fwl n K W A m p).2 := by rw [gB.1 _ _ (fun z => by unfold SB at z; omega)]; exact h3
          have hfl := (fwl_le (n := n) (K := K) (W := W) (A := A) (m := m) p).1
          have hrv := rvc_le (n := n) (K := K) (W := wup W (lop p) (hip p) 1) (A := A) (m := m)
          obtain ⟨σ4, e5, k2, k3, g5⟩ := c_weighWall (d := d + 3) (p := p) (x := rvc n K (wup W (lop p) (hip p) 1) A m) (by omega) (by omega) (by omega) h2' h3'
          have e6 : fwl n K W A m (p + 1) = (if (fwl n K W A m p).2 < rvc n K (wup W (lop p) (hip p) 1) A m then some p else (fwl n K W A m p).1, if (fwl n K W A m p).2 < rvc n K (wup W (lop p) (hip p) 1) A m then rvc n K (wup W (lop p) (hip p) 1) A m else (fwl n K W A m p).2) := by
            rw [fwl]
            by_cases c3 : (fwl n K W A m p).2 < rvc n K (wup W (lop p) (hip p) 1) A m
            · rw [if_pos ⟨c1, c2, c3⟩, if_pos c3, if_pos c3]
            · rw [if_neg (fun z => c3 z.2.2), if_neg c3, if_neg c3]
          have gC : Ag Scr σ σ4 := gA.tr (g5.mono (fun t q' h => Or.inl (by omega)))
          refine skip σ4 (h.ag gC Scr_0) gC (by rw [e6]; exact k2) (by rw [e6]; exact k3) ?_
          rw [s9_34]
          simp only [s9_40, s9_45, s9_52, s9_62, s9_65, s9_73, s9_76, s9_84, s9_96, s9_104, s9_113, s9_116, e15, i15, j15, ro60 p (by omega), ro61 p (by omega), ht, hw, c2, e1, e2, e3, e4, Option.bind_some, Option.toList_some, Option.toList_none, List.cons_append, List.nil_append, true_or, or_true, if_true, if_false, i10, i01, Bool.false_eq_true, add1N]
          have e5' := e5
          unfold rvc wup at e5'
          rw [e5']
          simp only [Option.bind_some, Option.toList_some, Option.toList_none, List.cons_append, List.nil_append, true_or, or_true, if_true, if_false, i10, i01, Bool.false_eq_true, s9_116, add1N]
        · have e6 : fwl n K W A m (p + 1) = fwl n K W A m p := by rw [fwl, if_neg (fun z => c2 z.2.1)]
          refine skip σ h Ag.rf (by rw [e6]; exact h2) (by rw [e6]; exact h3) ?_
          rw [s9_34]
          simp only [s9_40, s9_45, s9_52, s9_62, s9_65, s9_73, s9_116, e15, i15, j15, ro60 p (by omega), ro61 p (by omega), ht, hw, c2, Option.bind_some, Option.toList_some, Option.toList_none, List.cons_append, List.nil_append, true_or, or_true, if_true, if_false, i10, i01, Bool.false_eq_true, add1N]
      · have e6 : fwl n K W A m (p + 1) = fwl n K W A m p := by rw [fwl, if_neg (fun z => c1 z.1)]
        have ht := c_areTwo_f (d := d + 2) (x := nI (lop p)) (y := nI (hip p)) h.1 h6 (by
          rintro ⟨a, b, ha, hb, hab, h1, h2⟩
          rw [eqN (by omega) (by omega)] at h2
          omega)
        refine skip σ h Ag.rf (by rw [e6]; exact h2) (by rw [e6]; exact h3) ?_
        rw [s9_34]
        simp only [s9_40, s9_45, s9_52, s9_62, s9_116, e15, i15, j15, ro60 p (by omega), ro61 p (by omega), ht, Option.bind_some, Option.toList_some, Option.toList_none, List.cons_append, List.nil_append, true_or, or_true, if_true, if_false, i10, i01, Bool.false_eq_true, add1N]
  obtain ⟨σ1, e1, L1, g1⟩ := c_copyLv (d := d + 3) (σ := σ) (q := 2) (q' := 0) (by decide) h
  obtain ⟨σ2, e2, L2, g2⟩ := c_letPass (d := d) h6 m hm σ1 _ L1
  have L2' : Lv (se σ2 1 0 2 (-1)) 2 n K W (morN n K W m A) := L2.ag (S := fun t _ => t = 1) (Ag.sw rfl) (fun t ht (z : t = 1) => by omega)
  have e3 := c_river (d := d + 3) h6 L2'
  have g : Ag Scr σ (se (se σ2 1 0 2 (-1)) 1 0 3 (nI (rvc n K W A m))) := (((g1.SB_Scr (by omega)).tr (g2.SA_Scr (by omega))).tr (Ag.sw (by unfold Scr; omega))).tr (Ag.sw (by unfold Scr; omega))
  obtain ⟨σ3, e4, k2, k3, g3⟩ := key 15 0 (by omega) (se (se σ2 1 0 2 (-1)) 1 0 3 (nI (rvc n K W A m))) vN vN (h.ag g Scr_0) (by simp only [ar_sw_t, ar_sw_s, se_def, sw_sw, ne_eq, not_false_eq_true, Nat.reduceEqDiff, upd_n, upd_s]; rfl) (by simp only [ar_sw_t, ar_sw_s, se_def, sw_sw, ne_eq, not_false_eq_true, Nat.reduceEqDiff, upd_s]; rfl)
  refine ⟨σ3, ?_, k2, k3, g.tr g3⟩
  simp only [s9_e, s9_0, s9_8, s9_16, s9_29, e1, e2, e3, Option.bind_some, Option.toList_some, Option.toList_none, List.cons_append, List.nil_append, true_or, or_true, if_true, if_false, i10, i01, Bool.false_eq_true]
  exact e4
/-- a pair's number as it is told -/
def pno (o : Option Nat) : Int32 := match o with
  | none => -1
  | some p => nI (10 * lop p + hip p)
theorem c_pairNumber {o : Option Nat} (h : ∀ p, o = some p → p < 15) : call d 130 [vI (en o)] σ = some (some (vI (pno o)), σ) := by
  cases o with
  | none => simp only [s130_e, s130_0, s130_4, s130_10, s130_12, s130_19, s130_25, en_none, show ((-1 : Int32) < 0) = True by decide, Option.bind_some, Option.toList_some, Option.toList_none, List.cons_append, List.nil_append, true_or, or_true, if_true, if_false, i10, i01, Bool.false_eq_true]; rfl
  | some p =>
    have hp := h p rfl
    have e15 : nI p < 15 := by rw [show (15 : Int32) = nI 15 from rfl]; exact ltn (by omega) (by omega)
    have e10 : (10 : Int32) * nI (lop p) + nI (hip p) = nI (10 * lop p + hip p) := by rw [show (10 : Int32) = nI 10 from rfl, pk_mul, addN]
    simp only [s130_e, s130_0, s130_4, s130_10, s130_12, s130_19, s130_25, en_some, lt0N (show p ≤ 100000 by omega), e15, oob_nI hp (by decide), clN (show p ≤ 100000 by omega), ro60 p hp, ro61 p hp, e10, Option.bind_some, Option.toList_some, Option.toList_none, List.cons_append, List.nil_append, true_or, or_true, if_true, if_false, i10, i01, Bool.false_eq_true]
    rfl
noncomputable def wlA (n : Nat) (K W A : Nat → Int32) (m x : Nat) : Int32 := if (fwl n K W A m 15).1 = none ∨ x = 0 then pno (fwl n K W A m 15).1 else nI (fwl n K W A m 15).2
theorem c_walled {m x : Nat} (hx : x ≤ 1) (h2 : ar σ 1 0 2 = en (fwl n K W A m 15).1) (h3 : ar σ 1 0 3 = nI (fwl n K W A m 15).2) : call (d + 1) 11 [vR 1 0, vI (nI x)] σ = some (some (vI (wlA n K W A m x)), σ) := by
  have hlt := (fwl_le (n := n) (K := K) (W := W) (A := A) (m := m) 15).2
  have e1 := en_m1 (o := (fwl n K W A m 15).1) (fun b hb => by have := hlt b hb; omega)
  have e2 : (nI x = 0) = (x = 0) := by rw [show (0 : Int32) = nI 0 from rfl, eqN (by omega) (by omega)]
  have hp := c_pairNumber (d := d) (σ := σ) hlt
  unfold wlA
  by_cases c1 : (fwl n K W A m 15).1 = none
  · rw [if_pos (Or.inl c1)]
    simp only [s11_e, s11_0, s11_8, s11_12, s11_19, s11_20, h2, e1.trans (eq_true c1), hp, Option.bind_some, Option.toList_some, Option.toList_none, List.cons_append, List.nil_append, true_or, or_true, if_true, if_false, i10, i01, Bool.false_eq_true]
  · by_cases c2 : x = 0
    · rw [if_pos (Or.inr c2)]
      simp only [s11_e, s11_0, s11_8, s11_12, s11_19, s11_20, h2, e1.trans (eq_false c1), e2.trans (eq_true c2), hp, Option.bind_some, Option.toList_some, Option.toList_none, List.cons_append, List.nil_append, true_or, or_true, if_true, if_false, i10, i01, Bool.false_eq_true]
    · rw [if_neg (fun z => z.elim c1 c2)]
      simp only [s11_e, s11_0, s11_8, s11_12, s11_19, s11_20, h2, h3, e1.trans (eq_false c1), e2.trans (eq_false c2), Option.bind_some, Option.toList_some, Option.toList_none, List.cons_append, List.nil_append, true_or, or_true, if_true, if_false, i10, i01, Bool.false_eq_true]
end OL

/-! The reference: where it settles, grudges, walls. -/
def QM : Nat → Nat → Prop := fun x q => q = 0 ∧ 37 ≤ x ∧ x ≤ 47 ∧ x ≠ 44
theorem Ag.gq {σ σ' : St} (g : Ag (GM 41) σ σ') : Ag QM σ σ' := g.mono (fun x q z => by unfold GM at z; unfold QM; omega)
theorem Ag.wq {σ σ' : St} (g : Ag (fun x q => x = 41 ∧ q = 0) σ σ') : Ag QM σ σ' := g.mono (fun x q z => by unfold QM; omega)
theorem Ag.fq {σ σ' : St} (g : Ag (fun t q => t = 37 ∧ q = 0) σ σ') : Ag QM σ σ' := g.mono (fun x q z => by unfold QM; omega)
theorem Mr.qm {σ σ' : St} {n : Nat} {K W : Nat → Int32} (h : Mr σ n K W) (g : Ag QM σ σ') : Mr σ' n K W := h.ag g (by unfold QM; omega) (by unfold QM; omega) (by unfold QM; omega)
theorem Tb.qm {σ σ' : St} {A : Nat → Int32} (h : Tb σ 35 A) (g : Ag QM σ σ') : Tb σ' 35 A := h.ag g (by unfold QM; omega)
section M3
variable {d : Nat} {σ : St} {n : Nat} {K W A : Nat → Int32}
theorem l_settlesB (h6 : n ≤ 6) : ∀ f m l x, m + f = 61 → l + 21 ≤ m → exec (d + 3) 173 15 [vR 7 0, vI x, vI (nI l), vI (nI m)] [] σ = exec (d + 3) 173 52 [vR 7 0, vI x, vI (nI l), vI (nI 61)] [] σ := by
  intro f
  induction f with
  | zero =>
    intro m l x hm hl
    have e : m = 61 := by omega
    subst e
    rw [s173_15, show (61 : Int32) = nI 61 from rfl, if_neg nlt]
  | succ f ih =>
    intro m l x hm hl
    have e1 : ¬ nI m - nI l < 21 := by rw [pk_sub (by omega), show (21 : Int32) = nI 21 from rfl, ltN (by omega) (by omega)]; omega
    rw [s173_15, show (61 : Int32) = nI 61 from rfl, if_pos (ltn (show m < 61 by omega) (by omega))]
    simp only [s173_21, s173_44, s173_45, e1, add1N, Option.bind_some, Option.toList_some, Option.toList_none, List.cons_append, List.nil_append, true_or, or_true, if_true, if_false, i10, i01, Bool.false_eq_true]
    exact ih (m + 1) l x (by omega) (by omega)
theorem l_settlesA (h6 : n ≤ 6) (hW1 : W01 W) (hz : ZA n A) : ∀ f m l x, m + f = 61 → 1 ≤ m → l < m → m - 1 - l < 20 → ∀ σ : St, Mr σ n K W → Tb σ 41 (morN n K W (m - 1) A) → ∃ σ' l', exec (d + 3) 173 15 [vR 7 0, vI x, vI (nI l), vI (nI m)] [] σ = exec (d + 3) 173 52 [vR 7 0, vI x, vI (nI l'), vI (nI 61)] [] σ' ∧ Ag (GM 41) σ σ' ∧ l' ≤ 61 ∧ (match stg (tns n K W A) f m l with | some y => l' = y | none => 40 < l') := by
  intro f
  induction f with
  | zero =>
    intro m l x hm h1 hl hml σ h hT
    have e : m = 61 := by omega
    subst e
    refine ⟨σ, l, ?_, Ag.rf, by omega, ?_⟩
    · rw [s173_15, show (61 : Int32) = nI 61 from rfl, if_neg nlt]
    · show 40 < l; omega
  | succ f ih =>
    intro m l x hm h1 hl hml σ h hT
    obtain ⟨σ1, e1, T1, -, g1⟩ := m_goMorning (d := d) (Or.inr rfl) h6 hW1 h hT (ZA_morN _ _ hz)
    rw [← morN_succ, show m - 1 + 1 = m by omega] at T1
    have e21 : nI m - nI l < 21 := by rw [pk_sub (by omega), show (21 : Int32) = nI 21 from rfl]; exact ltn (by omega) (by omega)
    have etr : ((0 : Int32) < nI (trn n K W (morN n K W (m - 1) A))) = (tns n K W A (m - 1) = true) := by
      have := trn_le (n := n) (K := K) (W := W) (A := morN n K W (m - 1) A)
      rw [show (0 : Int32) = nI 0 from rfl, ltN (by omega) (by omega)]
      unfold tns
      rw [decide_eq_true_eq]
    have first : ∀ X, exec (d + 3) 173 15 [vR 7 0, vI x, vI (nI (if tns n K W A (m - 1) = true then m else l)), vI (nI (m + 1))] [] σ1 = X → exec (d + 3) 173 15 [vR 7 0, vI x, vI (nI l), vI (nI m)] [] σ = X := by
      intro X hX
      rw [s173_15, show (61 : Int32) = nI 61 from rfl, if_pos (ltn (show m < 61 by omega) (by omega))]
      cases ht : tns n K W A (m - 1) with
      | false =>
        rw [ht] at hX etr
        simp only [s173_21, s173_29, s173_37, s173_44, s173_45, e21, e1, etr, add1N, Option.bind_some, Option.toList_some, Option.toList_none, List.cons_append, List.nil_append, true_or, or_true, if_true, if_false, i10, i01, Bool.false_eq_true]
        exact hX
      | true =>
        rw [ht] at hX etr
        simp only [s173_21, s173_29, s173_37, s173_40, s173_45, e21, e1, etr, add1N, Option.bind_some, Option.toList_some, Option.toList_none, List.cons_append, List.nil_append, true_or, or_true, if_true, if_false, i10, i01, Bool.false_eq_true]
        exact hX
    obtain ⟨l', hl'⟩ : ∃ x, x = (if tns n K W A (m - 1) = true then m else l) := ⟨_, rfl⟩
    have hlm : l' ≤ m ∧ m - l' ≤ 20 := by rw [hl']; split <;> omega
    rw [stg, ← hl']
    rw [← hl'] at first
    by_cases c1 : m - l' = 20
    · rw [if_pos c1]
      refine ⟨σ1, l', first _ ?_, g1, by omega, rfl⟩
      exact l_settlesB h6 f (m + 1) l' x (by omega) (by omega)
    · rw [if_neg c1]
      obtain ⟨σ2, y, e2, g2, hy, hm2⟩ := ih (m + 1) l' x (by omega) (by omega) (by omega) (by omega) σ1 (h.gm (Or.inr rfl) g1) (by rw [show m + 1 - 1 = m by omega]; exact T1)
      exact ⟨σ2, y, first _ e2, g1.tr g2, hy, hm2⟩
theorem m_settlesOf {x : Nat} (h6 : n ≤ 6) (hW1 : W01 W) (hz : ZA n A) (h : Mr σ n K W) (hT : Tb σ 35 A) (hx : x = 0 ∨ (10 ≤ x ∧ x ≤ 15)) : ∃ σ', call (d + 4) 173 [vR 7 0, vI (nI x)] σ = some (some (vI (stA n K W A x)), σ') ∧ Ag QM σ σ' := by
  obtain ⟨σ1, e1, T1, g1⟩ := m_toWork (d := d + 3) hT
  obtain ⟨σ2, l, e2, g2, hl, hm⟩ := l_settlesA (d := d + 1) h6 hW1 hz 60 1 0 (nI x) (by omega) (by omega) (by omega) (by omega) σ1 (h.qm g1.wq) T1
  have gg : Ag QM σ σ2 := g1.wq.tr g2.gq
  have e40 : ((40 : Int32) < nI l) = (40 < l) := by rw [show (40 : Int32) = nI 40 from rfl, ltN (by omega) (by omega)]
  have ex0 : (nI x = 0) = (x = 0) := by rw [show (0 : Int32) = nI 0 from rfl, eqN (by omega) (by omega)]
  have start : call (d + 4) 173 [vR 7 0, vI (nI x)] σ = exec (d + 4) 173 52 [vR 7 0, vI (nI x), vI (nI l), vI (nI 61)] [] σ2 := by
    simp only [s173_e, s173_0, s173_11, e1, Option.bind_some, Option.toList_some, Option.toList_none, List.cons_append, List.nil_append, true_or, or_true, if_true, if_false, i10, i01, Bool.false_eq_true]
    exact e2
  unfold stA
  cases hs : stl n K W A with
  | none =>
    have hs' : stg (tns n K W A) 60 1 0 = none := hs
    rw [hs'] at hm
    refine ⟨σ2, ?_, gg⟩
    rw [start]
    simp only [s173_52, s173_58, e40.trans (eq_true hm), Option.bind_some, Option.toList_some, Option.toList_none, List.cons_append, List.nil_append, true_or, or_true, if_true, if_false, i10, i01, Bool.false_eq_true]
  | some y =>
    have hs' : stg (tns n K W A) 60 1 0 = some y := hs
    rw [hs'] at hm
    have hm' : l = y := hm
    subst hm'
    have hle := stl_le hs
    have e40' := e40.trans (eq_false (show ¬ 40 < l by omega))
    by_cases c0 : x = 0
    · refine ⟨σ2, ?_, gg⟩
      dsimp only
      rw [start, if_pos c0]
      simp only [s173_52, s173_60, s173_64, e40', ex0.trans (eq_true c0), Option.bind_some, Option.toList_some, Option.toList_none, List.cons_append, List.nil_append, true_or, or_true, if_true, if_false, i10, i01, Bool.false_eq_true]
    · have c1 : 10 ≤ x ∧ x ≤ 15 := by omega
      obtain ⟨σ3, e3, T3, g3⟩ := m_toWork (d := d + 3) (hT.qm gg)
      obtain ⟨σ4, e4, T4, F4, g4⟩ := m_goMornings (d := d) (m := l) (Or.inr rfl) h6 (by omega) hW1 σ3 A (h.qm (gg.tr g3.wq)) T3 hz
      have gg4 : Ag QM σ σ4 := (gg.tr g3.wq).tr g4.gq
      refine ⟨σ4, ?_, gg4⟩
      have hn4 := (h.qm gg4).1
      have e10 : nI x - 10 = nI (x - 10) := by rw [show (10 : Int32) = nI 10 from rfl, pk_sub (by omega)]
      have eln : (nI (x - 10) < nI n) = (x - 10 < n) := ltN (by omega) (by omega)
      dsimp only
      rw [start, if_neg c0]
      by_cases c2 : x - 10 < n
      · rw [if_pos c2]
        simp only [s173_52, s173_60, s173_66, s173_77, s173_86, s173_97, s173_106, s173_110, e40', ex0.trans (eq_false c0), e3, e4, hn4, e10, eln.trans (eq_true c2), oob_nI (show x - 10 < 6 by omega) (by decide), cl6 (show x - 10 < 6 by omega), F4 _ c2, Option.bind_some, Option.toList_some, Option.toList_none, List.cons_append, List.nil_append, true_or, or_true, if_true, if_false, i10, i01, Bool.false_eq_true]
      · rw [if_neg c2]
        simp only [s173_52, s173_60, s173_66, s173_77, s173_86, s173_109, s173_110, e40', ex0.trans (eq_false c0), e3, e4, hn4, e10, eln.trans (eq_false c2), Option.bind_some, Option.toList_some, Option.toList_none, List.cons_append, List.nil_append, true_or, or_true, if_true, if_false, i10, i01, Bool.false_eq_true]
/-- pairs among n houses, in order -/
def PN (n : Nat) : List Nat := (List.range 15).filter (fun p => decide (hip p < n))
def Pn (n : Nat) : Nat := n * (n - 1) / 2
def prn (n k : Nat) : Nat := (PN n).getD k 0
theorem PN_len : ∀ n, n ≤ 6 → (PN n).length = Pn n := by decide
theorem PN_lt : ∀ n, n ≤ 6 → ∀ k, k < Pn n → prn n k < 15 ∧ hip (prn n k) < n := by decide
theorem Pn_le : ∀ n, n ≤ 6 → Pn n ≤ 15 := by decide
theorem m_pairsMany (hn : ar σ 7 0 3 = nI n) (h6 : n ≤ 6) : call d 175 [vR 7 0] σ = some (some (vI (nI (Pn n))), σ) := by
  have h : ∀ n, n ≤ 6 → nI n * (nI n - 1) / 2 = nI (Pn n) := by decide
  simp only [s175_e, s175_0, hn, h n h6]
def pav : Nat → Nat → Nat → Nat → Bool
  | 0, _, _, _ => false
  | f + 1, n, left, a => if left < n - 1 - a then true else decide (a + 1 < n) && pav f n (left - (n - 1 - a)) (a + 1)
def pal : Nat → Nat → Nat → Nat → Nat
  | 0, _, _, _ => 0
  | f + 1, n, left, a => if left < n - 1 - a then 11 * a + 1 + left else pal f n (left - (n - 1 - a)) (a + 1)
theorem pal_ok : ∀ n, n ≤ 6 → ∀ k, k < Pn n → pav 7 n k 0 = true ∧ pal 7 n k 0 = 10 * lop (prn n k) + hip (prn n k) := by decide
theorem m_pairAt {k : Nat} (hn : ar σ 7 0 3 = nI n) (h6 : n ≤ 6) (hk : k < Pn n) : call d 176 [vR 7 0, vI (nI k)] σ = some (some (vI (nI (10 * lop (prn n k) + hip (prn n k)))), σ) := by
  have hP := Pn_le n h6
  have key : ∀ f left a, left ≤ 100 → a < n → pav f n left a = true → exec d 176 4 [vR 7 0, vI (nI k), vI (nI left), vI (nI a)] [] σ = some (some (vI (nI (pal f n left a))), σ) := by
    intro f
    induction f with
    | zero => intro left a _ _ h; cases h
    | succ f ih =>
      intro left a hl ha hp
      rw [pav] at hp
      rw [pal]
      have e1 : nI n - 1 - nI a = nI (n - 1 - a) := by rw [show (1 : Int32) = nI 1 from rfl, pk_sub (by omega), pk_sub (by omega)]
      have e2 : (nI left < nI (n - 1 - a)) = (left < n - 1 - a) := ltN (by omega) (by omega)
      by_cases c : left < n - 1 - a
      · rw [if_pos c]
        have e3 : (10 : Int32) * nI a + nI a + 1 + nI left = nI (11 * a + 1 + left) := by
          rw [show (10 : Int32) = nI 10 from rfl, pk_mul, addN, add1N, addN]
          congr 1
          omega
        simp only [s176_4, s176_33, hn, e1, e2.trans (eq_true c), e3, Option.bind_some, Option.toList_some, Option.toList_none, List.cons_append, List.nil_append, true_or, or_true, if_true, if_false, i10, i01, Bool.false_eq_true]
      · rw [if_neg c] at hp ⊢
        rw [Bool.and_eq_true, decide_eq_true_eq] at hp
        have e3 : nI left - nI (n - 1 - a) = nI (left - (n - 1 - a)) := pk_sub (by omega)
        rw [s176_4]
        simp only [s176_16, hn, e1, e2.trans (eq_false c), e3, add1N, Option.bind_some, Option.toList_some, Option.toList_none, List.cons_append, List.nil_append, true_or, or_true, if_true, if_false, i10, i01, Bool.false_eq_true]
        exact ih _ _ (by omega) hp.1 hp.2
  obtain ⟨h1, h2⟩ := pal_ok n h6 k hk
  have h0 : 0 < n := by
    apply Classical.byContradiction
    intro z
    have : n = 0 := by omega
    rw [this] at hk
    have h0 : Pn 0 = 0 := by decide
    omega
  rw [← h2]
  rw [s176_e, s176_0]
  exact key 7 k 0 (by omega) h0 h1
theorem prno : ∀ p, p < 15 → (10 * lop p + hip p) / 10 = lop p ∧ (10 * lop p + hip p) % 10 = hip p ∧ 10 * lop p + hip p ≤ 45 := by decide
theorem divT {k : Nat} (hk : k ≤ 1000) : nI k / 10 = nI (k / 10) := by
  rw [show (10 : Int32) = nI 10 from rfl, pk_div (by omega) (by omega) (by omega)]
theorem remT {k : Nat} (hk : k ≤ 1000) : nI k - nI k / 10 * 10 = nI (k % 10) := by
  rw [show (10 : Int32) = nI 10 from rfl, pk_rem (by omega) (by omega) (by omega)]
theorem pcA_ext {p : Nat} {A A' : Nat → Int32} (hA : ∀ j, j < 36 → A j = A' j) : ∀ j, j < 36 → pcA p A j = pcA p A' j := fun j hj => by
  unfold pcA
  rw [upd_if, upd_if, upd_if, upd_if, hA j hj]
theorem m_makePeace {p : Nat} (hp : p < 15) (hT : Tb σ 41 A) : ∃ σ', call d 177 [vR 7 0, vR 41 0, vI (nI (10 * lop p + hip p))] σ = some (none, σ') ∧ Tb σ' 41 (pcA p A) ∧ Ag (fun x q => x = 41 ∧ q = 0) σ σ' := by
  obtain ⟨h1, h2, h3⟩ := prno p hp
  obtain ⟨hl, hh⟩ := lop6 p hp
  have i1 : oob (nI (6 * lop p + hip p)) (lenT 41) = false := oob_nI (show 6 * lop p + hip p < 36 by omega) (by decide)
  have j1 : (nI (6 * lop p + hip p)).toNatClampNeg = 6 * lop p + hip p := clN (by omega)
  have i2 : oob (nI (6 * hip p + lop p)) (lenT 41) = false := oob_nI (show 6 * hip p + lop p < 36 by omega) (by decide)
  have j2 : (nI (6 * hip p + lop p)).toNatClampNeg = 6 * hip p + lop p := clN (by omega)
  have r1 : nI (10 * lop p + hip p) - nI (lop p) * 10 = nI (hip p) := by
    have := remT (k := 10 * lop p + hip p) (by omega)
    rw [h2, divT (by omega), h1] at this
    exact this
  refine ⟨sw σ 41 0 (pcA p (ar σ 41 0)), ?_, fun j hj => ?_, Ag.sw ⟨rfl, rfl⟩⟩
  · simp only [s177_e, s177_0, s177_21, s177_31, divT (show 10 * lop p + hip p ≤ 1000 by omega), h1, r1, mul6N', addN, i1, j1, i2, j2, se_def, ar_sw_s, sw_sw, Option.bind_some, Option.toList_some, Option.toList_none, List.cons_append, List.nil_append, true_or, or_true, if_true, if_false, i10, i01, Bool.false_eq_true]
    rfl
  · rw [ar_sw_s]; exact pcA_ext hT j hj
theorem m_grudgeOf {a b m : Nat} (h6 : n ≤ 6) (ha : a < n) (hb : b < n) (hab : a ≠ b) (hm : m ≤ 1000) (hW1 : W01 W) (hz : ZA n A) (h : Mr σ n K W) (hT : Tb σ 35 A) : ∃ σ', call (d + 4) 186 [vR 7 0, vI (nI a), vI (nI b), vI (nI m)] σ = some (some (vI (en (grd n K W A a b m 9 1))), σ') ∧ Ag QM σ σ' := by
  have i1 : oob (nI (6 * a + b)) 36 = false := oob_nI (by omega) (by omega)
  have j1 : (nI (6 * a + b)).toNatClampNeg = 6 * a + b := clN (by omega)
  have key : ∀ f x, x + f = 10 → ∀ σ : St, Mr σ n K W → Tb σ 35 A → ∃ σ', exec (d + 4) 186 3 [vR 7 0, vI (nI a), vI (nI b), vI (nI m), vI (nI x)] [] σ = some (some (vI (en (grd n K W A a b m f x))), σ') ∧ Ag QM σ σ' := by
    intro f
    induction f with
    | zero =>
      intro x hx σ h hT
      have e : x = 10 := by omega
      subst e
      exact ⟨σ, by rw [s186_3, show (10 : Int32) = nI 10 from rfl, if_neg nlt, s186_77]; rfl, Ag.rf⟩
    | succ f ih =>
      intro x hx σ h hT
      have lt10 : nI x < 10 := by rw [show (10 : Int32) = nI 10 from rfl]; exact ltn (by omega) (by omega)
      obtain ⟨σ1, e1, T1, g1⟩ := m_toWork (d := d + 3) hT
      have hA1 : ar σ1 41 0 (6 * a + b) = A (6 * a + b) := T1 _ (by omega)
      obtain ⟨σ2, hσ2⟩ : ∃ y, y = se σ1 41 0 (6 * a + b) (bd (A (6 * a + b) + nI x)) := ⟨_, rfl⟩
      have g2 : Ag (fun x q => x = 41 ∧ q = 0) σ1 σ2 := by rw [hσ2]; exact Ag.sw ⟨rfl, rfl⟩
      have T2 : Tb σ2 41 (upd A (6 * a + b) (bd (A (6 * a + b) + nI x))) := fun j hj => by
        rw [hσ2, se_def, ar_sw_s, upd_if, upd_if, T1 j hj]
      have hz2 : ZA n (upd A (6 * a + b) (bd (A (6 * a + b) + nI x))) := fun j hj hc => by
        rw [upd_n (by omega)]; exact hz j hj hc
      have g12 : Ag QM σ σ2 := g1.wq.tr g2.wq
      obtain ⟨σ3, e3, T3, F3, g3⟩ := m_goMornings (d := d) (m := m) (Or.inr rfl) h6 hm hW1 σ2 _ (h.qm g12) T2 hz2
      have g : Ag QM σ σ3 := g12.tr g3.gq
      have hf := F3 a ha
      have e4 := en_eq (o := pick n K W (morN n K W m (upd A (6 * a + b) (bd (A (6 * a + b) + nI x)))) a) (a := b) (by omega) (fun c h => by have := pick_lt h; omega)
      rw [grd]
      have start : exec (d + 4) 186 3 [vR 7 0, vI (nI a), vI (nI b), vI (nI m), vI (nI x)] [] σ = exec (d + 4) 186 64 [vR 7 0, vI (nI a), vI (nI b), vI (nI m), vI (nI x)] [vI (en (pick n K W (morN n K W m (upd A (6 * a + b) (bd (A (6 * a + b) + nI x)))) a))] σ3 := by
        rw [hσ2] at e3
        simp only [s186_3, s186_10, s186_21, s186_42, s186_48, s186_49, s186_58, lt10, e1, mul6N', addN, i1, j1, hA1, m_topped, e3, oob_nI (show a < 6 by omega) (by decide), cl6 (show a < 6 by omega), hf, Option.bind_some, Option.toList_some, Option.toList_none, List.cons_append, List.nil_append, true_or, or_true, if_true, if_false, i10, i01, Bool.false_eq_true]
      by_cases c1 : pick n K W (morN n K W m (upd A (6 * a + b) (bd (A (6 * a + b) + nI x)))) a = some b
      · rw [if_pos c1]
        refine ⟨σ3, ?_, g⟩
        rw [start]
        simp only [s186_64, s186_68, e4.trans (eq_true c1), Option.bind_some, Option.toList_some, Option.toList_none, List.cons_append, List.nil_append, true_or, or_true, if_true, if_false, i10, i01, Bool.false_eq_true]
        rfl
      · rw [if_neg c1]
        obtain ⟨σ4, e5, g5⟩ := ih (x + 1) (by omega) σ3 (h.qm g) (hT.qm g)
        refine ⟨σ4, ?_, g.tr g5⟩
        rw [start]
        simp only [s186_64, s186_71, e4.trans (eq_false c1), add1N, Option.bind_some, Option.toList_some, Option.toList_none, List.cons_append, List.nil_append, true_or, or_true, if_true, if_false, i10, i01, Bool.false_eq_true]
        exact e5
  obtain ⟨σ', e, g⟩ := key 9 1 (by omega) σ h hT
  exact ⟨σ', by rw [s186_e, s186_0]; exact e, g⟩
theorem m_riverBehind {m : Nat} (h6 : n ≤ 6) (hm : m ≤ 1000) (hW1 : W01 W) (hz : ZA n A) (h : Mr σ n K W) (hT : Tb σ 35 A) : ∃ σ', call (d + 4) 188 [vR 7 0, vI (nI m)] σ = some (some (vI (nI (rvc n K W A m))), σ') ∧ Ag QM σ σ' := by
  obtain ⟨σ1, e1, T1, g1⟩ := m_toWork (d := d + 3) hT
  obtain ⟨σ2, e2, T2, F2, g2⟩ := m_goMornings (d := d) (m := m) (Or.inr rfl) h6 hm hW1 σ1 A (h.qm g1.wq) T1 hz
  have g : Ag QM σ σ2 := g1.wq.tr g2.gq
  have e3 := m_riverMany (d := d + 3) (h.qm g).1 h6 F2 (fun a b hh => pick_lt hh)
  refine ⟨σ2, ?_, g⟩
  simp only [s188_e, s188_0, s188_11, s188_20, s188_24, e1, e2, e3, Option.bind_some, Option.toList_some, Option.toList_none, List.cons_append, List.nil_append, true_or, or_true, if_true, if_false, i10, i01, Bool.false_eq_true]
  rfl
/-- walls tried in order -/
noncomputable def fws (n : Nat) (K W A : Nat → Int32) (m : Nat) (s : Option Nat × Nat) (p : Nat) : Option Nat × Nat := if W (6 * lop p + hip p) = 0 ∧ s.2 < rvc n K (wup W (lop p) (hip p) 1) A m then (some p, rvc n K (wup W (lop p) (hip p) 1) A m) else s
theorem fold_filter {S : Type} {g : S → Nat → S} {q : Nat → Bool} : ∀ (l : List Nat) (s : S), (l.filter q).foldl g s = l.foldl (fun s p => if q p = true then g s p else s) s
  | [], _ => rfl
  | p :: l, s => by
    rw [List.filter_cons, List.foldl_cons]
    cases hq : q p with
    | true => rw [if_pos rfl, if_pos rfl, List.foldl_cons, fold_filter l]
    | false => rw [if_neg Bool.false_ne_true, if_neg Bool.false_ne_true, fold_filter l]
theorem fwl_fold {m : Nat} : ∀ p, fwl n K W A m p = (List.range p).foldl (fun s p => if decide (hip p < n) = true then fws n K W A m s p else s) (none, rvc n K W A m)
  | 0 => rfl
  | p + 1 => by
    rw [List.range_succ, List.foldl_append, ← fwl_fold p, List.foldl_cons, List.foldl_nil, fwl]
    unfold fws
    by_cases c1 : hip p < n
    · rw [if_pos (decide_eq_true c1)]
      by_cases c2 : W (6 * lop p + hip p) = 0 ∧ (fwl n K W A m p).2 < rvc n K (wup W (lop p) (hip p) 1) A m
      · rw [if_pos ⟨c1, c2⟩, if_pos c2]
      · rw [if_neg (fun z => c2 z.2), if_neg c2]
    · rw [if_neg (fun z : hip p < n ∧ _ => c1 z.1), if_neg (by rw [decide_eq_true_eq]; exact c1)]
theorem fwl_PN {m : Nat} : fwl n K W A m 15 = (PN n).foldl (fws n K W A m) (none, rvc n K W A m) := by
  rw [fwl_fold]
  exact (fold_filter _ _).symm
def WS (W : Nat → Int32) : Prop := ∀ a b, a < 6 → b < 6 → W (6 * a + b) = W (6 * b + a)
theorem W01_wup {a b : Nat} (h : W01 W) : W01 (wup W a b 1) := fun j hj => by
  unfold wup
  rw [upd_if, upd_if]
  split
  · exact Or.inr rfl
  · split
    · exact Or.inr rfl
    · exact h j hj
theorem m_layWall {a b : Nat} {w : Int32} (ha : a < 6) (hb : b < 6) (h : Mr σ n K W) : ∃ σ', call d 165 [vR 7 0, vI (nI a), vI (nI b), vI w] σ = some (none, σ') ∧ Mr σ' n K (wup W a b w) ∧ Ag (fun x q => x = 36 ∧ q = 0) σ σ' := by
  have i1 : oob (nI (6 * a + b)) 36 = false := oob_nI (by omega) (by omega)
  have j1 : (nI (6 * a + b)).toNatClampNeg = 6 * a + b := clN (by omega)
  have i2 : oob (nI (6 * b + a)) 36 = false := oob_nI (by omega) (by omega)
  have j2 : (nI (6 * b + a)).toNatClampNeg = 6 * b + a := clN (by omega)
  refine ⟨se (se σ 36 0 (6 * a + b) w) 36 0 (6 * b + a) w, ?_, ⟨?_, ?_, fun j hj => ?_⟩, (Ag.sw ⟨rfl, rfl⟩).tr (Ag.sw ⟨rfl, rfl⟩)⟩
  · simp only [s165_e, s165_0, s165_12, s165_24, mul6N', addN, i1, j1, i2, j2, Option.bind_some, Option.toList_some, Option.toList_none, List.cons_append, List.nil_append, true_or, or_true, if_true, if_false, i10, i01, Bool.false_eq_true]
  · simp only [ar_sw_t, ar_sw_s, se_def, sw_sw, ne_eq, not_false_eq_true, Nat.reduceEqDiff]; exact h.1
  · simp only [ar_sw_t, ar_sw_s, se_def, sw_sw, ne_eq, not_false_eq_true, Nat.reduceEqDiff]; exact h.2.1
  · simp only [ar_sw_t, ar_sw_s, se_def, sw_sw, ne_eq, not_false_eq_true, Nat.reduceEqDiff]
    unfold wup
    rw [upd_if, upd_if, upd_if, upd_if, h.2.2 j hj]
theorem fws_le {m : Nat} {s : Option Nat × Nat} {p : Nat} (hs : s.2 ≤ n) : (fws n K W A m s p).2 ≤ n := by
  unfold fws
  split
  · exact rvc_le
  · exact hs
theorem m_wallsOf {m x : Nat} (h6 : n ≤ 6) (hm : m ≤ 1000) (hx : x ≤ 1) (hW1 : W01 W) (hWS : WS W) (hz : ZA n A) (h : Mr σ n K W) (hT : Tb σ 35 A) : ∃ σ', call (d + 5) 189 [vR 7 0, vI (nI m), vI (nI x)] σ = some (some (vI (wlA n K W A m x)), σ') ∧ (∀ x q, ¬ (QM x q ∨ (x = 36 ∧ q = 0)) → ar σ' x q = ar σ x q) ∧ Mr σ' n K W ∧ σ'.2 = σ.2 := by
  have hP := Pn_le n h6
  have hlen := PN_len n h6
  have key : ∀ f k, k + f = Pn n → ∀ (σ : St) (s : Option Nat × Nat) (v6 v7 v8 : IV), (∀ p, s.1 = some p → p < 15) → s.2 ≤ n → Mr σ n K W → Tb σ 35 A → ∃ σ' v6' v7' v8', exec (d + 5) 189 12 [vR 7 0, vI (nI m), vI (nI x), vI (pno s.1), vI (nI s.2), vI (nI k), v6, v7, v8] [] σ = exec (d + 5) 189 124 [vR 7 0, vI (nI m), vI (nI x), vI (pno (((PN n).drop k).foldl (fws n K W A m) s).1), vI (nI (((PN n).drop k).foldl (fws n K W A m) s).2), vI (nI (Pn n)), v6', v7', v8'] [] σ' ∧ (∀ p, (((PN n).drop k).foldl (fws n K W A m) s).1 = some p → p < 15) ∧ Ag (fun x q => QM x q ∨ (x = 36 ∧ q = 0)) σ σ' ∧ Mr σ' n K W := by
    intro f
    induction f with
    | zero =>
      intro k hk σ s v6 v7 v8 hs1 hs2 h hT
      have e : k = Pn n := by omega
      subst e
      have ed : (PN n).drop (Pn n) = [] := List.drop_eq_nil_of_le (by omega)
      rw [ed]
      refine ⟨σ, v6, v7, v8, ?_, hs1, Ag.rf, h⟩
      simp only [s189_12, s189_18, m_pairsMany h.1 h6, if_neg nlt, Option.bind_some, Option.toList_some, Option.toList_none, List.cons_append, List.nil_append, true_or, or_true, if_true, if_false, i10, i01, Bool.false_eq_true]
      rfl
    | succ f ih =>
      intro k hk σ s v6 v7 v8 hs1 hs2 h hT
      obtain ⟨hp15, hpn⟩ := PN_lt n h6 k (by omega)
      obtain ⟨p1, p2, p3⟩ := prno (prn n k) hp15
      obtain ⟨hl6, hh6⟩ := lop6 (prn n k) hp15
      have hdrop : (PN n).drop k = prn n k :: (PN n).drop (k + 1) := by
        rw [List.drop_eq_getElem_cons (by omega)]
        congr 1
        unfold prn
        rw [List.getD_eq_getElem?_getD, List.getElem?_eq_getElem (by omega)]
        rfl
      have hpa := m_pairAt (d := d + 4) h.1 h6 (show k < Pn n by omega)
      have i1 : oob (nI (6 * lop (prn n k) + hip (prn n k))) 36 = false := oob_nI (by omega) (by omega)
      have j1 : (nI (6 * lop (prn n k) + hip (prn n k))).toNatClampNeg = 6 * lop (prn n k) + hip (prn n k) := clN (by omega)
      have hWp := h.2.2 (6 * lop (prn n k) + hip (prn n k)) (by omega)
      rw [hdrop, List.foldl_cons]
      obtain ⟨p, hpe⟩ : ∃ p, prn n k = p := ⟨_, rfl⟩
      rw [hpe] at hp15 hpn p1 p2 p3 hl6 hh6 hpa i1 j1 hWp ⊢
      have r1 : nI (10 * lop p + hip p) - nI (lop p) * 10 = nI (hip p) := by
        have := remT (k := 10 * lop p + hip p) (by omega)
        rw [p2, divT (by omega), p1] at this
        exact this
      by_cases c : W (6 * lop p + hip p) = 0
      · obtain ⟨σ1, e1, M1, g1⟩ := m_layWall (d := d + 4) (w := 1) hl6 hh6 h
        have T1 : Tb σ1 35 A := hT.ag g1 (by omega)
        obtain ⟨σ2, e2, g2⟩ := m_riverBehind (d := d) h6 hm (W01_wup hW1) hz M1 T1
        obtain ⟨σ3, e3, M3, g3⟩ := m_layWall (d := d + 4) (w := 0) hl6 hh6 (M1.qm g2)
        have Wb : ∀ j, j < 36 → wup (wup W (lop p) (hip p) 1) (lop p) (hip p) 0 j = W j := fun j hj => by
          have hsym := hWS (lop p) (hip p) hl6 hh6
          unfold wup
          rw [upd_if, upd_if, upd_if, upd_if]
          by_cases c1 : j = 6 * hip p + lop p
          · rw [if_pos c1, c1, ← hsym, c]
          · rw [if_neg c1]
            by_cases c2 : j = 6 * lop p + hip p
            · rw [if_pos c2, c2, c]
            · rw [if_neg c2, if_neg c1, if_neg c2]
        have M3' : Mr σ3 n K W := ⟨M3.1, M3.2.1, fun j hj => (M3.2.2 j hj).trans (Wb j hj)⟩
        have gA : Ag (fun x q => QM x q ∨ (x = 36 ∧ q = 0)) σ σ3 := ((g1.mono (fun x q z => Or.inr z)).tr (g2.mono (fun x q z => Or.inl z))).tr (g3.mono (fun x q z => Or.inr z))
        have T3 : Tb σ3 35 A := (T1.qm g2).ag g3 (by omega)
        have hrv := rvc_le (n := n) (K := K) (W := wup W (lop p) (hip p) 1) (A := A) (m := m)
        have elt : (nI s.2 < nI (rvc n K (wup W (lop p) (hip p) 1) A m)) = (s.2 < rvc n K (wup W (lop p) (hip p) 1) A m) := ltN (by omega) (by omega)
        have hpa3 := m_pairAt (d := d + 4) M3'.1 h6 (show k < Pn n by omega)
        rw [hpe] at hpa3
        by_cases c2 : s.2 < rvc n K (wup W (lop p) (hip p) 1) A m
        · have efs : fws n K W A m s p = (some p, rvc n K (wup W (lop p) (hip p) 1) A m) := by unfold fws; rw [if_pos ⟨c, c2⟩]
          rw [efs]
          obtain ⟨σ4, w6, w7, w8, e4, q4, g4, M4⟩ := ih (k + 1) (by omega) σ3 (some p, rvc n K (wup W (lop p) (hip p) 1) A m) (vI (nI (lop p))) (vI (nI (hip p))) (vI (nI (rvc n K (wup W (lop p) (hip p) 1) A m))) (fun q hq => by cases hq; exact hp15) hrv M3' T3
          refine ⟨σ4, w6, w7, w8, ?_, q4, gA.tr g4, M4⟩
          rw [s189_12]
          simp only [s189_18, s189_21, s189_27, s189_38, s189_56, s189_59, s189_68, s189_73, s189_84, s189_91, s189_97, s189_101, s189_109, s189_116, s189_118, m_pairsMany h.1 h6, if_pos (ltn (show k < Pn n by omega) (by omega)), hpa, divT (show 10 * lop p + hip p ≤ 1000 by omega), p1, r1, mul6N', addN, i1, j1, hWp, c, e1, e2, e3, elt.trans (eq_true c2), hpa3, add1N, Option.bind_some, Option.toList_some, Option.toList_none, List.cons_append, List.nil_append, true_or, or_true, if_true, if_false, i10, i01, Bool.false_eq_true]
          exact e4
        · have efs : fws n K W A m s p = s := by unfold fws; rw [if_neg (fun z => c2 z.2)]
          rw [efs]
          obtain ⟨σ4, w6, w7, w8, e4, q4, g4, M4⟩ := ih (k + 1) (by omega) σ3 s (vI (nI (lop p))) (vI (nI (hip p))) (vI (nI (rvc n K (wup W (lop p) (hip p) 1) A m))) hs1 hs2 M3' T3
          refine ⟨σ4, w6, w7, w8, ?_, q4, gA.tr g4, M4⟩
          rw [s189_12]
          simp only [s189_18, s189_21, s189_27, s189_38, s189_56, s189_59, s189_68, s189_73, s189_84, s189_100, s189_101, s189_114, s189_116, s189_118, m_pairsMany h.1 h6, if_pos (ltn (show k < Pn n by omega) (by omega)), hpa, divT (show 10 * lop p + hip p ≤ 1000 by omega), p1, r1, mul6N', addN, i1, j1, hWp, c, e1, e2, e3, elt.trans (eq_false c2), add1N, Option.bind_some, Option.toList_some, Option.toList_none, List.cons_append, List.nil_append, true_or, or_true, if_true, if_false, i10, i01, Bool.false_eq_true]
          exact e4
      · have efs : fws n K W A m s p = s := by unfold fws; rw [if_neg (fun z => c z.1)]
        rw [efs]
        obtain ⟨σ4, w6, w7, w8, e4, q4, g4, M4⟩ := ih (k + 1) (by omega) σ s (vI (nI (lop p))) (vI (nI (hip p))) v8 hs1 hs2 h hT
        refine ⟨σ4, w6, w7, w8, ?_, q4, g4, M4⟩
        rw [s189_12]
        simp only [s189_18, s189_21, s189_27, s189_38, s189_56, s189_118, m_pairsMany h.1 h6, if_pos (ltn (show k < Pn n by omega) (by omega)), hpa, divT (show 10 * lop p + hip p ≤ 1000 by omega), p1, r1, mul6N', addN, i1, j1, hWp, c, add1N, Option.bind_some, Option.toList_some, Option.toList_none, List.cons_append, List.nil_append, true_or, or_true, if_true, if_false, i10, i01, Bool.false_eq_true]
        exact e4
  obtain ⟨σ1, e1, g1⟩ := m_riverBehind (d := d) h6 hm hW1 hz h hT
  obtain ⟨σ2, w6, w7, w8, e2, q2, g2, M2⟩ := key (Pn n) 0 (by omega) σ1 (none, rvc n K W A m) vN vN vN (fun p hp => (by cases hp)) rvc_le (h.qm g1) (hT.qm g1)
  have hfl : ((PN n).drop 0).foldl (fws n K W A m) (none, rvc n K W A m) = fwl n K W A m 15 := by rw [fwl_PN]; rfl
  rw [hfl] at e2 q2
  have gg : Ag (fun x q => QM x q ∨ (x = 36 ∧ q = 0)) σ σ2 := (g1.mono (fun x q z => Or.inl z)).tr g2
  refine ⟨σ2, ?_, gg.1, M2, gg.2⟩
  have start : call (d + 5) 189 [vR 7 0, vI (nI m), vI (nI x)] σ = exec (d + 5) 189 124 [vR 7 0, vI (nI m), vI (nI x), vI (pno (fwl n K W A m 15).1), vI (nI (fwl n K W A m 15).2), vI (nI (Pn n)), w6, w7, w8] [] σ2 := by
    simp only [s189_e, s189_0, s189_7, e1, Option.bind_some, Option.toList_some, Option.toList_none, List.cons_append, List.nil_append, true_or, or_true, if_true, if_false, i10, i01, Bool.false_eq_true]
    exact e2
  rw [start]
  have ex0 : (nI x = 0) = (x = 0) := by rw [show (0 : Int32) = nI 0 from rfl, eqN (by omega) (by omega)]
  unfold wlA
  cases hf : (fwl n K W A m 15).1 with
  | none =>
    rw [if_pos (Or.inl rfl)]
    simp only [s189_124, s189_133, s189_139, pno, Option.bind_some, Option.toList_some, Option.toList_none, List.cons_append, List.nil_append, true_or, or_true, if_true, if_false, i10, i01, Bool.false_eq_true]
  | some p =>
    have hp := q2 p hf
    have hp3 := (prno p hp).2.2
    have en1 : pno (some p) = nI (10 * lop p + hip p) := rfl
    by_cases c : x = 0
    · rw [if_pos (Or.inr c)]
      simp only [s189_124, s189_129, s189_133, s189_139, en1, n1N (show 10 * lop p + hip p ≤ 100000 by omega), ex0.trans (eq_true c), Option.bind_some, Option.toList_some, Option.toList_none, List.cons_append, List.nil_append, true_or, or_true, if_true, if_false, i10, i01, Bool.false_eq_true]
    · rw [if_neg (fun z => z.elim (fun y => by cases y) c)]
      simp only [s189_124, s189_129, s189_137, s189_139, en1, n1N (show 10 * lop p + hip p ≤ 100000 by omega), ex0.trans (eq_false c), Option.bind_some, Option.toList_some, Option.toList_none, List.cons_append, List.nil_append, true_or, or_true, if_true, if_false, i10, i01, Bool.false_eq_true]
end M3

/-! Calls of both: courts, mornings. -/
section O4
variable {d : Nat} {σ σ' : St} {X : Ab}
theorem lir_some {F : Nat → Option Nat} {n : Nat} : ∀ {m a x : Nat}, lir F n m a = some x → a ≤ x ∧ x < a + m ∧ 0 < rsz F n x
  | 0, _, _, h => by cases h
  | m + 1, a, x, h => by
    rw [lir] at h
    by_cases c : 0 < rsz F n a
    · rw [if_pos c] at h
      cases h
      exact ⟨Nat.le_refl _, by omega, c⟩
    · rw [if_neg c] at h
      obtain ⟨h1, h2, h3⟩ := lir_some h
      exact ⟨by omega, by omega, h3⟩
/-- the angers when so many of a ring are no more angry at whom they front -/
noncomputable def crk (F : Nat → Option Nat) (a : Nat) (A : Nat → Int32) (k : Nat) : Nat → Int32 := fun j => @ite _ (∃ i, i < k ∧ it F i a = some (j / 6) ∧ F (j / 6) = some (j % 6)) (Classical.propDecidable _) 0 (A j)
theorem crk_step {F : Nat → Option Nat} {a k x b : Nat} {A : Nat → Int32} (hx : it F k a = some x) (hb : F x = some b) (hb6 : b < 6) (j : Nat) : upd (crk F a A k) (6 * x + b) 0 j = crk F a A (k + 1) j := by
  rw [upd_if]
  by_cases e : j = 6 * x + b
  · rw [if_pos e]
    unfold crk
    have d1 : j / 6 = x := by omega
    have d2 : j % 6 = b := by omega
    rw [if_pos ⟨k, by omega, by rw [d1]; exact hx, by rw [d1, d2]; exact hb⟩]
  · rw [if_neg e]
    unfold crk
    by_cases c : ∃ i, i < k ∧ it F i a = some (j / 6) ∧ F (j / 6) = some (j % 6)
    · obtain ⟨i, h1, h2⟩ := c
      rw [if_pos ⟨i, h1, h2⟩, if_pos ⟨i, by omega, h2⟩]
    · rw [if_neg c, if_neg]
      rintro ⟨i, h1, h2, h3⟩
      by_cases ei : i = k
      · rw [ei, hx] at h2
        have := Option.some.inj h2
        rw [← this, hb] at h3
        have := Option.some.inj h3
        omega
      · exact c ⟨i, by omega, h2, h3⟩
theorem crk_crt {F : Nat → Option Nat} {n a : Nat} {A : Nat → Int32} (hv : ∀ a b, F a = some b → b < n) (ha : a < n) (hr : 0 < rsz F n a) (j : Nat) : crk F a A (rsz F n a) j = crt n F (rbit F n 0 (some a)) A j := by
  obtain ⟨r3, rn, rr, -⟩ := rsz_pos hr
  have q : (∃ i, i < rsz F n a ∧ it F i a = some (j / 6) ∧ F (j / 6) = some (j % 6)) ↔ (j / 6 < n ∧ (rbit F n 0 (some a)).testBit (j / 6) = true ∧ F (j / 6) = some (j % 6)) := by
    constructor
    · rintro ⟨i, h1, h2, h3⟩
      exact ⟨it_lt hv i a _ ha h2, (rbit_tb n 0 (some a) (j / 6)).mpr (Or.inr ⟨i, a, by omega, rfl, h2⟩), h3⟩
    · rintro ⟨h1, h2, h3⟩
      rcases (rbit_tb n 0 (some a) (j / 6)).mp h2 with h2 | ⟨i, x, hi, hx, hy⟩
      · rw [Nat.zero_testBit] at h2; cases h2
      · cases hx
        exact ⟨i % rsz F n a, Nat.mod_lt _ hr, by rw [it_mod rr]; exact hy, h3⟩
  unfold crk crt
  by_cases c : ∃ i, i < rsz F n a ∧ it F i a = some (j / 6) ∧ F (j / 6) = some (j % 6)
  · rw [if_pos c, if_pos (q.mp c)]
  · rw [if_neg c, if_neg (fun z => c (q.mpr z))]
theorem crt_or {n B : Nat} {F : Nat → Option Nat} {A : Nat → Int32} (j : Nat) : crt n F B A j = 0 ∨ crt n F B A j = A j := by
  unfold crt
  split
  · exact Or.inl rfl
  · exact Or.inr rfl
theorem op_court (hw : Wf σ) (hc : CAt σ X) (hm : MAt σ X) (hx : WfX X) : Step d 108 168 [] X σ := by
  have h6 := hx.1.2.1
  have hn := hc.1.1.1
  have hF : ∀ a, a < qn (xs X) → ar σ 13 0 a = en (qF (xs X) a) := hc.1.1.2.2.2.2
  have hv : ∀ a b, qF (xs X) a = some b → b < qn (xs X) := fun a b h => qF_lt h
  have elr := c_leastInRing (d := d + 9) hn h6 hF hv
  -- the reference's first steps
  have first : ∀ σ : St, MAt σ X → ∃ σ1, call (d + 12) 168 [vR 7 0] σ = exec (d + 12) 168 41 [vR 7 0, vI (en (lir (qF (xs X)) (qn (xs X)) (qn (xs X)) 0)), vI (-1), vN, vN, vN] [] σ1 ∧ Fc σ1 (qn (xs X)) (qF (xs X)) ∧ Ag (fun t q => t = 37 ∧ q = 0) σ σ1 := by
    intro σ m
    obtain ⟨σ1, e1, F1, g1⟩ := m_layFaces' (d := d + 10) (Or.inl rfl) h6 hx.1.2.2.1 m.1 m.2.1
    have h1 := m.1.qm g1.fq
    refine ⟨σ1, ?_, F1, g1⟩
    have loop : ∀ b, b ≤ qn (xs X) → exec (d + 12) 168 17 [vR 7 0, vI (en (lir (qF (xs X)) (qn (xs X)) (qn (xs X) - b) b)), vI (nI b - 1), vN, vN, vN] [] σ1 = exec (d + 12) 168 41 [vR 7 0, vI (en (lir (qF (xs X)) (qn (xs X)) (qn (xs X)) 0)), vI (-1), vN, vN, vN] [] σ1 := by
      intro b
      induction b with
      | zero =>
        intro hb
        have e0 : nI 0 - 1 = -1 := by decide
        rw [e0, s168_17, if_pos (show (-1 : Int32) < 0 by decide), Nat.sub_zero]
      | succ b ih =>
        intro hb
        have e2 := m_ringOf (d := d + 11) (F := qF (xs X)) h1.1 h6 F1 hv (show b < qn (xs X) by omega)
        have hle := rsz_le (F := qF (xs X)) (n := qn (xs X)) (a := b)
        have lt0 : ((0 : Int32) < nI (rsz (qF (xs X)) (qn (xs X)) b)) = (0 < rsz (qF (xs X)) (qn (xs X)) b) := by rw [n0]; exact ltN (by omega) (by omega)
        have es : nI b + -1 = nI b - 1 := (Int32.sub_eq_add_neg _ _).symm
        have eb : qn (xs X) - b = qn (xs X) - (b + 1) + 1 := by omega
        have ih' := ih (by omega)
        rw [eb, lir] at ih'
        rw [nI_pred, s168_17, if_neg (nI_pos (by omega))]
        by_cases c : 0 < rsz (qF (xs X)) (qn (xs X)) b
        · rw [if_pos c, en_some] at ih'
          simp only [s168_21, s168_26, s168_29, s168_34, e2, lt0.trans (eq_true c), es, Option.bind_some, Option.toList_some, Option.toList_none, List.cons_append, List.nil_append, true_or, or_true, if_true, if_false, i10, i01, Bool.false_eq_true]
          exact ih'
        · rw [if_neg c] at ih'
          simp only [s168_21, s168_26, s168_33, s168_34, e2, lt0.trans (eq_false c), es, Option.bind_some, Option.toList_some, Option.toList_none, List.cons_append, List.nil_append, true_or, or_true, if_true, if_false, i10, i01, Bool.false_eq_true]
          exact ih'
    have l := loop (qn (xs X)) (Nat.le_refl _)
    rw [Nat.sub_self] at l
    simp only [s168_e, s168_0, s168_8, e1, h1.1, Option.bind_some, Option.toList_some, Option.toList_none, List.cons_append, List.nil_append, true_or, or_true, if_true, if_false, i10, i01, Bool.false_eq_true]
    exact l
  cases ho : lir (qF (xs X)) (qn (xs X)) (qn (xs X)) 0 with
  | none =>
    rw [ho] at elr
    refine Step.rd hw hc hm hx (v := vI (-103)) (σ1 := σ) ?_ Ag.rf (fun m => ?_)
    · rw [en_none] at elr
      simp only [s108_e, s108_0, s108_7, s108_13, s108_26, elr, Option.bind_some, Option.toList_some, Option.toList_none, List.cons_append, List.nil_append, true_or, or_true, if_true, if_false, i10, i01, Bool.false_eq_true]
    · obtain ⟨σ1, e1, F1, g1⟩ := first σ m
      refine ⟨σ1, ?_, QF.of g1.fq⟩
      rw [ho, en_none] at e1
      rw [e1, s168_41, if_pos rfl, s168_46]
  | some a =>
    obtain ⟨-, ha, hr⟩ := lir_some ho
    rw [Nat.zero_add] at ha
    rw [ho, en_some] at elr
    obtain ⟨σ1, e1, L1, g1⟩ := c_endRing (d := d + 9) h6 ha hc.1.1
    obtain ⟨A', hA'⟩ : ∃ A', A' = crt (qn (xs X)) (qF (xs X)) (rbit (qF (xs X)) (qn (xs X)) 0 (some a)) (qA (xs X)) := ⟨_, rfl⟩
    have L1' : Lv σ1 0 (qn (xs X)) (qK (xs X)) (qW (xs X)) A' := by rw [hA']; exact L1
    have e1' : call (d + 11) 84 [vR 5 0, vI (nI a)] σ = some (some (vI (nI (rsz (qF (xs X)) (qn (xs X)) a))), σ1) := e1
    have S1 := hc.1.lv L1' g1
    have m1 := hm.cb (CB.sa g1)
    obtain ⟨σ2, e2, F2, g2⟩ := first σ1 m1
    have h2 := m1.1.qm g2.fq
    have e3 := m_ringOf (d := d + 11) h2.1 h6 F2 hv ha
    obtain ⟨r3, rn, rr, -⟩ := rsz_pos hr
    have loop : ∀ f k x, k + f = rsz (qF (xs X)) (qn (xs X)) a → it (qF (xs X)) k a = some x → ∀ (σ : St) (v5 : IV), Fc σ (qn (xs X)) (qF (xs X)) → (∀ j, j < 36 → ar σ 35 0 j = crk (qF (xs X)) a (qA (xs X)) k j) → ∃ σ', exec (d + 12) 168 60 [vR 7 0, vI (nI a), vI (nI (rsz (qF (xs X)) (qn (xs X)) a)), vI (nI x), vI (nI k), v5] [] σ = some (some (vI (nI (rsz (qF (xs X)) (qn (xs X)) a))), σ') ∧ (∀ j, j < 36 → ar σ' 35 0 j = crk (qF (xs X)) a (qA (xs X)) (rsz (qF (xs X)) (qn (xs X)) a) j) ∧ Ag (fun t q => t = 35 ∧ q = 0) σ σ' := by
      intro f
      induction f with
      | zero =>
        intro k x hk hit σ v5 hF hA
        have ek : k = rsz (qF (xs X)) (qn (xs X)) a := by omega
        rw [ek] at hA
        exact ⟨σ, by rw [ek, s168_60, if_neg nlt, s168_96], hA, Ag.rf⟩
      | succ f ih =>
        intro k x hk hit σ v5 hF hA
        obtain ⟨b, hb⟩ := it_some (k := rsz (qF (xs X)) (qn (xs X)) a) (j := k + 1) rr (by omega)
        have hFx : qF (xs X) x = some b := by rw [it, hit] at hb; exact hb
        have hx' := it_lt hv k a x ha hit
        have hb' := hv x b hFx
        have hfx := hF x hx'
        rw [hFx, en_some] at hfx
        have ix := oob_nI (show x < 6 by omega) (show 6 ≤ 1000 by omega)
        have cx := cl6 (show x < 6 by omega)
        have ixb := oob_nI (show 6 * x + b < 36 by omega) (show 36 ≤ 1000 by omega)
        have cxb := clN (show 6 * x + b ≤ 100000 by omega)
        have g1 : Ag (fun t q => t = 35 ∧ q = 0) σ (se σ 35 0 (6 * x + b) 0) := Ag.sw ⟨rfl, rfl⟩
        obtain ⟨σ3, e3, q3, g3⟩ := ih (k + 1) b (by omega) hb (se σ 35 0 (6 * x + b) 0) (vI (nI b)) (hF.ag g1 (by omega)) (fun j hj => by
          rw [se_def, ar_sw_s, ← crk_step hit hFx (by omega) j, upd_if, upd_if, hA j hj])
        refine ⟨σ3, ?_, q3, g1.tr g3⟩
        have hle := rsz_le (F := qF (xs X)) (n := qn (xs X)) (a := a)
        rw [s168_60, if_pos (ltn (show k < rsz (qF (xs X)) (qn (xs X)) a by omega) (by omega))]
        simp only [s168_66, s168_72, s168_87, ix, cx, hfx, mul6N', addN, ixb, cxb, add1N, Option.bind_some, Option.toList_some, Option.toList_none, List.cons_append, List.nil_append, true_or, or_true, if_true, if_false, i10, i01, Bool.false_eq_true]
        exact e3
    obtain ⟨σ3, e4, q3, g3⟩ := loop (rsz (qF (xs X)) (qn (xs X)) a) 0 a (by omega) rfl σ2 vN F2 (fun j hj => by
      rw [g2.1 35 0 (by omega), m1.2.1 j hj]
      unfold crk
      rw [if_neg (by rintro ⟨i, hi, -⟩; omega)])
    have gM : Ag (fun t q => (t = 35 ∨ t = 37) ∧ q = 0) σ1 σ3 := (g2.mono (fun t q z => by omega)).tr (g3.mono (fun t q z => by omega))
    refine Step.mk hw (v := vI (nI (rsz (qF (xs X)) (qn (xs X)) a))) (σ1 := σ1) (σ2 := σ3) (X' := (sqa (xs X) A' (qq (xs X)) (qp (xs X)), xg X, xL X, xp X, xi X, xr X, xc X, xa X)) ?_ (CB.sa g1) (hc.sq S1 g1.SA_SB) ?_ (AgM.of gM (fun t q z => by omega)) (m1.sq (m1.1.ag gM (by omega) (by omega) (by omega)) (fun j hj => ?_) (m1.2.2.2.2.1.fr (fun t h1 h2 => gM.1 t 0 (by omega)) (fun j _ _ => by rw [gM.1 7 0 (by omega)])) (fun t ht => gM.1 t 0 (by omega)) (fun j hj => by rw [gM.1 7 0 (by omega)])) (hx.sq (hx.1.sqa (fun j hj hcj => ?_) (fun j hj => ?_)) rfl rfl) (by show xr X ≤ _; omega)
    · have na : ¬ nI a = -1 := fun z => (n1N (show a ≤ 100000 by omega)).mp z
      simp only [s108_e, s108_0, s108_7, s108_18, s108_26, elr, na, e1', Option.bind_some, Option.toList_some, Option.toList_none, List.cons_append, List.nil_append, true_or, or_true, if_true, if_false, i10, i01, Bool.false_eq_true]
    · have na : ¬ nI a = -1 := fun z => (n1N (show a ≤ 100000 by omega)).mp z
      rw [ho, en_some] at e2
      have e4' : exec (d + 12) 168 60 [vR 7 0, vI (nI a), vI (nI (rsz (qF (xs X)) (qn (xs X)) a)), vI (nI a), vI 0, vN] [] σ2 = some (some (vI (nI (rsz (qF (xs X)) (qn (xs X)) a))), σ3) := e4
      refine e2.trans ?_
      rw [s168_41, if_neg na]
      simp only [s168_49, s168_54, e3, Option.bind_some, Option.toList_some, Option.toList_none, List.cons_append, List.nil_append, true_or, or_true, if_true, if_false, i10, i01, Bool.false_eq_true]
      exact e4'
    · show ar σ3 35 0 j = A' j
      rw [q3 j hj, crk_crt hv ha hr j, hA']
    · rw [hA']
      rcases crt_or (n := qn (xs X)) (F := qF (xs X)) (B := rbit (qF (xs X)) (qn (xs X)) 0 (some a)) (A := qA (xs X)) j with e | e
      · exact e
      · rw [e]; exact hx.1.2.2.2.2.2.1 j hj hcj
    · rw [hA']
      rcases crt_or (n := qn (xs X)) (F := qF (xs X)) (B := rbit (qF (xs X)) (qn (xs X)) 0 (some a)) (A := qA (xs X)) j with e | e
      · rw [e]; exact ⟨0, by omega, rfl⟩
      · rw [e]; exact hx.1.2.2.2.2.2.2.1 j hj
theorem c_stands_t {n : Nat} (hn : ar σ 5 0 7 = nI n) (h6 : n ≤ 6) (h0 : 0 < n) : call d 50 [vR 5 0] σ = some (some (vI 1), σ) := by
  rw [c_stands, hn, if_pos (by rw [n0]; exact ltn h0 (by omega))]
theorem c_stands_f (hn : ar σ 5 0 7 = nI 0) : call d 50 [vR 5 0] σ = some (some (vI 0), σ) := by
  rw [c_stands, hn, if_neg (show ¬ (0 : Int32) < nI 0 from nlt)]
theorem m_lacks_t {n : Nat} (hn : ar σ 7 0 3 = nI n) (h6 : n ≤ 6) (h0 : 0 < n) : call d 142 [vR 7 0] σ = some (some (vI 0), σ) := by
  rw [m_lacks hn h6, if_neg (by omega)]
theorem m_lacks_f {n : Nat} (hn : ar σ 7 0 3 = nI n) (h0 : n = 0) : call d 142 [vR 7 0] σ = some (some (vI 1), σ) := by
  rw [m_lacks hn (by omega), if_pos h0]
theorem l_morning {n : Nat} {F : Nat → Option Nat} (h6 : n ≤ 6) (hv : ∀ a b, F a = some b → b < n) : ∀ f a, a + f = n → ∀ σ : St, ar σ 7 0 3 = nI n → Fc σ n F → ∃ σ', exec (d + 2) 172 33 [vR 7 0, vI (nI a)] [] σ = exec (d + 2) 172 91 [vR 7 0, vI (nI n)] [] σ' ∧ (∀ x, a ≤ x → x < n → ar σ' 33 0 x = (if star F x = true then ar σ 33 0 x + 1 else ar σ 33 0 x) ∧ ar σ' 34 0 x = (if 0 < rsz F n x then ar σ 34 0 x + 1 else ar σ 34 0 x)) ∧ (∀ x, x < a → ar σ' 33 0 x = ar σ 33 0 x ∧ ar σ' 34 0 x = ar σ 34 0 x) ∧ Ag (fun t q => (t = 33 ∨ t = 34) ∧ q = 0) σ σ' := by
  intro f
  induction f with
  | zero =>
    intro a ha σ hn hF
    have ea : a = n := by omega
    subst ea
    exact ⟨σ, by rw [s172_33, hn, if_neg nlt], fun x h1 h2 => by omega, fun _ _ => ⟨rfl, rfl⟩, Ag.rf⟩
  | succ f ih =>
    intro a ha σ hn hF
    have ia := oob_nI (show a < 6 by omega) (show 6 ≤ 1000 by omega)
    have ca := cl6 (show a < 6 by omega)
    have e1 := m_stares (d := d + 1) h6 hF hv (show a < n by omega)
    obtain ⟨t, ht⟩ : ∃ t : Int32, t = if star F a = true then ar σ 33 0 a + 1 else ar σ 33 0 a := ⟨_, rfl⟩
    obtain ⟨σ1, hσ1⟩ : ∃ σ1, σ1 = se σ 33 0 a t := ⟨_, rfl⟩
    have g1 : Ag (fun t q => (t = 33 ∨ t = 34) ∧ q = 0) σ σ1 := by rw [hσ1]; exact Ag.sw ⟨Or.inl rfl, rfl⟩
    have n1 : ar σ1 7 0 3 = nI n := by rw [g1.1 7 0 (by omega)]; exact hn
    have F1 : Fc σ1 n F := hF.ag g1 (by omega)
    have e2 := m_ringOf (d := d + 1) n1 h6 F1 hv (show a < n by omega)
    have hle := rsz_le (F := F) (n := n) (a := a)
    have lt0 : ((0 : Int32) < nI (rsz F n a)) = (0 < rsz F n a) := by rw [n0]; exact ltN (by omega) (by omega)
    obtain ⟨u, hu⟩ : ∃ u : Int32, u = if 0 < rsz F n a then ar σ1 34 0 a + 1 else ar σ1 34 0 a := ⟨_, rfl⟩
    obtain ⟨σ2, hσ2⟩ : ∃ σ2, σ2 = se σ1 34 0 a u := ⟨_, rfl⟩
    have g2 : Ag (fun t q => (t = 33 ∨ t = 34) ∧ q = 0) σ1 σ2 := by rw [hσ2]; exact Ag.sw ⟨Or.inr rfl, rfl⟩
    obtain ⟨σ3, e3, q3, o3, g3⟩ := ih (a + 1) (by omega) σ2 (by rw [g2.1 7 0 (by omega)]; exact n1) (F1.ag g2 (by omega))
    have f33 : ar σ2 33 0 = upd (ar σ 33 0) a t := by rw [hσ2, se_def, ar_sw_t (by decide), hσ1, se_def, ar_sw_s]
    have s34 : ar σ1 34 0 = ar σ 34 0 := by rw [hσ1, se_def, ar_sw_t (by decide)]
    have f34 : ar σ2 34 0 = upd (ar σ 34 0) a u := by rw [hσ2, se_def, ar_sw_s, s34]
    rw [s34] at hu
    refine ⟨σ3, ?_, fun x h1 h2 => ?_, fun x hx => ?_, (g1.tr g2).tr g3⟩
    · have mid : exec (d + 2) 172 33 [vR 7 0, vI (nI a)] [] σ = exec (d + 2) 172 63 [vR 7 0, vI (nI a)] [] σ1 := by
        rw [s172_33, hn, if_pos (ltn (show a < n by omega) (by omega))]
        by_cases c : star F a = true
        · rw [if_pos c] at ht e1
          simp only [s172_41, s172_48, s172_53, s172_56, s172_61, ia, ca, e1, ← ht, ← hσ1, Option.bind_some, Option.toList_some, Option.toList_none, List.cons_append, List.nil_append, true_or, or_true, if_true, if_false, i10, i01, Bool.false_eq_true]
        · rw [if_neg c] at ht e1
          simp only [s172_41, s172_48, s172_53, s172_60, s172_61, ia, ca, e1, Int32.add_zero, ← ht, ← hσ1, Option.bind_some, Option.toList_some, Option.toList_none, List.cons_append, List.nil_append, true_or, or_true, if_true, if_false, i10, i01, Bool.false_eq_true]
      rw [mid]
      by_cases c : 0 < rsz F n a
      · rw [if_pos c] at hu
        simp only [s172_63, s172_70, s172_75, s172_78, s172_83, s172_85, ia, ca, e2, lt0.trans (eq_true c), s34, ← hu, ← hσ2, add1N, Option.bind_some, Option.toList_some, Option.toList_none, List.cons_append, List.nil_append, true_or, or_true, if_true, if_false, i10, i01, Bool.false_eq_true]
        exact e3
      · rw [if_neg c] at hu
        simp only [s172_63, s172_70, s172_75, s172_82, s172_83, s172_85, ia, ca, e2, lt0.trans (eq_false c), s34, Int32.add_zero, ← hu, ← hσ2, add1N, Option.bind_some, Option.toList_some, Option.toList_none, List.cons_append, List.nil_append, true_or, or_true, if_true, if_false, i10, i01, Bool.false_eq_true]
        exact e3
    · by_cases ex : x = a
      · subst ex
        obtain ⟨a1, a2⟩ := o3 x (by omega)
        rw [a1, a2, f33, f34, upd_s, upd_s]
        exact ⟨ht, hu⟩
      · obtain ⟨a1, a2⟩ := q3 x (by omega) h2
        rw [a1, a2, f33, f34, upd_n ex, upd_n ex]
        exact ⟨rfl, rfl⟩
    · obtain ⟨a1, a2⟩ := o3 x (by omega)
      rw [a1, a2, f33, f34, upd_n (by omega), upd_n (by omega)]
      exact ⟨rfl, rfl⟩
theorem op_morning (hw : Wf σ) (hc : CAt σ X) (hm : MAt σ X) (hx : WfX X) : Step d 109 172 [] X σ := by
  have h6 := hx.1.2.1
  have hn := hc.1.1.1
  have h8 : ar σ 5 0 8 = nI (qm (xs X)) := hc.1.2.2.2.2.1
  have h999 := hx.1.2.2.2.2.2.2.2
  by_cases c0 : qn (xs X) = 0
  · rw [c0] at hn
    refine Step.rd hw hc hm hx (v := vI (-103)) (σ1 := σ) ?_ Ag.rf (fun m => ⟨σ, ?_, QF.of Ag.rf⟩)
    · simp only [s109_e, s109_0, s109_7, s109_10, c_stands_f hn, Option.bind_some, Option.toList_some, Option.toList_none, List.cons_append, List.nil_append, true_or, or_true, if_true, if_false, i10, i01, Bool.false_eq_true]
    · simp only [s172_e, s172_0, s172_4, s172_7, m_lacks_f m.1.1 c0, Option.bind_some, Option.toList_some, Option.toList_none, List.cons_append, List.nil_append, true_or, or_true, if_true, if_false, i10, i01, Bool.false_eq_true]
  · have p0 : 0 < qn (xs X) := by omega
    have lt999 : (nI (qm (xs X)) < 999) = (qm (xs X) < 999) := by rw [show (999 : Int32) = nI 999 from rfl]; exact ltN (by omega) (by omega)
    have eq999 : (nI (qm (xs X)) = 999) = (qm (xs X) = 999) := by rw [show (999 : Int32) = nI 999 from rfl]; exact eqN (by omega) (by omega)
    by_cases c1 : qm (xs X) < 999
    · obtain ⟨σ1, e1, S1, g1⟩ := c_liveMorning (d := d + 8) h6 hc.1
      have m1 := hm.cb (CB.sb g1)
      have hv : ∀ a b, qF (xs X) a = some b → b < qn (xs X) := fun a b h => qF_lt h
      obtain ⟨σ2, e2, F2, g2⟩ := m_layFaces' (d := d + 10) (Or.inl rfl) h6 hx.1.2.2.1 m1.1 m1.2.1
      have h2 := m1.1.qm g2.fq
      obtain ⟨σ3, e3, q3, -, g3⟩ := l_morning (d := d + 10) (F := qF (xs X)) h6 hv (qn (xs X)) 0 (by omega) σ2 h2.1 F2
      have h3 : Mr σ3 (qn (xs X)) (qK (xs X)) (qW (xs X)) := h2.ag g3 (by omega) (by omega) (by omega)
      have T3 : Tb σ3 35 (qA (xs X)) := fun j hj => by rw [g3.1 35 0 (by omega), g2.1 35 0 (by omega)]; exact m1.2.1 j hj
      obtain ⟨σ4, e4, T4, F4, g4⟩ := m_goMorning (d := d + 9) (Or.inl rfl) h6 hx.1.2.2.1 h3 T3 hx.1.2.2.2.2.2.1
      have s7 : ar σ4 7 0 = ar σ1 7 0 := by rw [g4.1 7 0 (by unfold GM; omega), g3.1 7 0 (by omega), g2.1 7 0 (by omega)]
      obtain ⟨σ5, hσ5⟩ : ∃ σ5, σ5 = se (se σ4 7 0 4 (nI (qm (xs X) + 1))) 7 0 5 (qt (xs X) + nI (trn (qn (xs X)) (qK (xs X)) (qW (xs X)) (qA (xs X)))) := ⟨_, rfl⟩
      have f7 : ar σ5 7 0 = upd (upd (ar σ1 7 0) 4 (nI (qm (xs X) + 1))) 5 (qt (xs X) + nI (trn (qn (xs X)) (qK (xs X)) (qW (xs X)) (qA (xs X)))) := by rw [hσ5]; simp only [ar_sw_t, ar_sw_s, se_def, sw_sw, ne_eq, not_false_eq_true, Nat.reduceEqDiff]; rw [s7]
      have fo : ∀ t, t ≠ 7 → ar σ5 t 0 = ar σ4 t 0 := fun t h => by rw [hσ5]; simp only [se_def]; rw [ar_sw_t h, ar_sw_t h]
      have o1 : ∀ t, t ≠ 7 → t ≠ 33 → t ≠ 34 → t ≠ 35 → t ≠ 37 → t ≠ 39 → t ≠ 40 → ar σ5 t 0 = ar σ1 t 0 := fun t a1 a2 a3 a4 a5 a6 a7 => by
        rw [fo t a1, g4.1 t 0 (by unfold GM; omega), g3.1 t 0 (by omega), g2.1 t 0 (by omega)]
      have r4 : ar σ4 7 0 4 = nI (qm (xs X)) := by rw [s7]; exact m1.2.2.2.2.1.2.2.2.1
      have r5 : ar (se σ4 7 0 4 (nI (qm (xs X) + 1))) 7 0 5 = qt (xs X) := by rw [se_def, ar_sw_s, upd_n (by decide), s7]; exact m1.2.2.2.2.1.2.2.2.2.1
      refine Step.mk hw (v := vI (nI (trn (qn (xs X)) (qK (xs X)) (qW (xs X)) (qA (xs X))))) (σ1 := σ1) (σ2 := σ5) (X' := (lvM (xs X), xg X, xL X, xp X, xi X, xr X, xc X, xa X)) ?_ (CB.sb g1) (hc.sq S1 g1) ?_ ?_ (m1.sq ⟨by rw [f7, upd_n (by decide), upd_n (by decide)]; exact m1.1.1, fun i hi => by rw [o1 31 (by omega) (by omega) (by omega) (by omega) (by omega) (by omega) (by omega)]; exact m1.1.2.1 i hi, fun i hi => by rw [o1 36 (by omega) (by omega) (by omega) (by omega) (by omega) (by omega) (by omega)]; exact m1.1.2.2 i hi⟩ (fun j hj => by rw [fo 35 (by omega)]; exact T4 j hj) ⟨fun i hi => by rw [o1 32 (by omega) (by omega) (by omega) (by omega) (by omega) (by omega) (by omega)]; exact m1.2.2.2.2.1.1 i hi, fun i hi => ?_, fun i hi => ?_, by rw [f7, upd_n (by decide), upd_s]; rfl, by rw [f7, upd_s]; rfl, by rw [f7, upd_n (by decide), upd_n (by decide)]; exact m1.2.2.2.2.1.2.2.2.2.2.1, by rw [f7, upd_n (by decide), upd_n (by decide)]; exact m1.2.2.2.2.1.2.2.2.2.2.2⟩ (fun t ht => o1 t (by omega) (by omega) (by omega) (by omega) (by omega) (by omega) (by omega)) (fun j hj => by rw [f7, upd_n (by omega), upd_n (by omega)])) (hx.sq ⟨hx.1.1, h6, hx.1.2.2.1, hx.1.2.2.2.1, hx.1.2.2.2.2.1, ZA_mor hx.1.2.2.2.2.2.1, R20_mor hx.1.2.2.2.2.2.2.1, by show qm (xs X) + 1 ≤ 999; omega⟩ rfl rfl) (by show xr X ≤ _; omega)
      · simp only [s109_e, s109_0, s109_7, s109_13, s109_29, s109_36, c_stands_t hn h6 p0, h8, lt999.trans (eq_true c1), e1, Option.bind_some, Option.toList_some, Option.toList_none, List.cons_append, List.nil_append, true_or, or_true, if_true, if_false, i10, i01, Bool.false_eq_true]
      · have e3' : exec (d + 12) 172 33 [vR 7 0, vI 0] [] σ2 = exec (d + 12) 172 91 [vR 7 0, vI (nI (qn (xs X)))] [] σ3 := e3
        simp only [s172_e, s172_0, s172_4, s172_10, s172_23, s172_31, m_lacks_t m1.1.1 h6 p0, show ar σ1 7 0 4 = nI (qm (xs X)) from m1.2.2.2.2.1.2.2.2.1, eq999.trans (eq_false (show ¬ qm (xs X) = 999 by omega)), e2, e3', Option.bind_some, Option.toList_some, Option.toList_none, List.cons_append, List.nil_append, true_or, or_true, if_true, if_false, i10, i01, Bool.false_eq_true]
        simp only [s172_91, s172_99, e4, r4, add1N, r5, Option.bind_some, Option.toList_some, Option.toList_none, List.cons_append, List.nil_append, true_or, or_true, if_true, if_false, i10, i01, Bool.false_eq_true]
        rw [hσ5]
      · rw [hσ5]
        refine ⟨fun t q hn => ?_, ?_⟩
        · by_cases hq : q = 0
          · subst hq
            simp only [se_def]
            rw [ar_sw_t (by omega), ar_sw_t (by omega), g4.1 t 0 (by unfold GM; omega), g3.1 t 0 (by omega), g2.1 t 0 (by omega)]
          · simp only [se_def]
            rw [ar_sw_q hq, ar_sw_q hq, g4.1 t q (by unfold GM; omega), g3.1 t q (by omega), g2.1 t q (by omega)]
        · show σ4.2.2 = σ1.2.2
          rw [g4.2, g3.2, g2.2]
      · have hi' : i < qn (xs X) := hi
        show ar σ5 33 0 i = trM (qn (xs X)) (star (qF (xs X))) (qT (xs X)) i
        rw [fo 33 (by omega), g4.1 33 0 (by unfold GM; omega), (q3 i (Nat.zero_le _) hi').1, g2.1 33 0 (by omega), m1.2.2.2.2.1.2.1 i hi']
        unfold trM
        by_cases c : star (qF (xs X)) i = true
        · rw [if_pos c, if_pos ⟨hi', c⟩]
        · rw [if_neg c, if_neg (fun z => c z.2)]
      · have hi' : i < qn (xs X) := hi
        show ar σ5 34 0 i = trM (qn (xs X)) (fun a => decide (0 < rsz (qF (xs X)) (qn (xs X)) a)) (qC (xs X)) i
        rw [fo 34 (by omega), g4.1 34 0 (by unfold GM; omega), (q3 i (Nat.zero_le _) hi').2, g2.1 34 0 (by omega), m1.2.2.2.2.1.2.2.1 i hi']
        unfold trM
        by_cases c : 0 < rsz (qF (xs X)) (qn (xs X)) i
        · rw [if_pos c, if_pos ⟨hi', decide_eq_true c⟩]
        · rw [if_neg c, if_neg (fun z => c (of_decide_eq_true z.2))]
    · refine Step.rd hw hc hm hx (v := vI (-104)) (σ1 := σ) ?_ Ag.rf (fun m => ⟨σ, ?_, QF.of Ag.rf⟩)
      · simp only [s109_e, s109_0, s109_7, s109_13, s109_26, c_stands_t hn h6 p0, h8, lt999.trans (eq_false c1), Option.bind_some, Option.toList_some, Option.toList_none, List.cons_append, List.nil_append, true_or, or_true, if_true, if_false, i10, i01, Bool.false_eq_true]
      · simp only [s172_e, s172_0, s172_4, s172_10, s172_20, m_lacks_t m.1.1 h6 p0, show ar σ 7 0 4 = nI (qm (xs X)) from m.2.2.2.2.1.2.2.2.1, eq999.trans (eq_true (show qm (xs X) = 999 by omega)), Option.bind_some, Option.toList_some, Option.toList_none, List.cons_append, List.nil_append, true_or, or_true, if_true, if_false, i10, i01, Bool.false_eq_true]
end O4

/-! The reference: what is seen, and spans. -/
noncomputable def pI (p : Prop) : Int32 := @ite _ p (Classical.propDecidable p) 1 0
theorem pI_t {p : Prop} (h : p) : pI p = 1 := by unfold pI; rw [if_pos h]
theorem pI_f {p : Prop} (h : ¬ p) : pI p = 0 := by unfold pI; rw [if_neg h]
theorem pI_c {p q : Prop} (h : p ↔ q) : pI p = pI q := by rw [propext h]
def Sm (σ : St) (g : Sg) : Prop := ar σ 7 0 24 = nI (gl g) ∧ gl g ≤ 8 ∧ ∀ i, i < gl g → ar σ 44 0 (3 * i) = nI (gh g i) ∧ ar σ 44 0 (3 * i + 1) = en (gf g i) ∧ ar σ 44 0 (3 * i + 2) = nI (gm g i)
theorem Sm.ag {S : Nat → Nat → Prop} {σ σ' : St} {g : Sg} (h : Sm σ g) (hg : Ag S σ σ') (h7 : ¬ S 7 0) (h44 : ¬ S 44 0) : Sm σ' g := ⟨by rw [hg.1 _ _ h7]; exact h.1, h.2.1, fun i hi => by rw [hg.1 _ _ h44]; exact h.2.2 i hi⟩
theorem Sm.qm {σ σ' : St} {g : Sg} (h : Sm σ g) (hg : Ag QM σ σ') : Sm σ' g := h.ag hg (by unfold QM; omega) (by unfold QM; omega)
section M4
variable {d : Nat} {σ : St} {n : Nat} {K W A : Nat → Int32}
theorem l_sight1 {g : Sg} {F : Nat → Option Nat} {v k j : Nat} {Q0 : Prop} {x1 x2 : Int32} {v6 : IV} (h6 : n ≤ 6) (hg : sgW n g) (hv : v < 21) (hk : k < 6) (hF5 : ∀ a b, F a = some b → b < n) (hj : j < gl g) (h : Sm σ g) (hF : Fc σ n F) (hm : ar σ 46 0 v = pI (Q0 ∧ ∀ i, i < j → gm g i = k → F (gh g i) = gf g i)) : ∃ v6', exec d 193 77 [vR 7 0, vI x1, vI x2, vI (nI v), vI (nI k), vI (nI (3 * j)), v6] [] σ = exec d 193 77 [vR 7 0, vI x1, vI x2, vI (nI v), vI (nI k), vI (nI (3 * (j + 1))), v6'] [] (se σ 46 0 v (pI (Q0 ∧ ∀ i, i < j + 1 → gm g i = k → F (gh g i) = gf g i))) := by
  have h8 := h.2.1
  obtain ⟨r1, r2, r3⟩ := h.2.2 j hj
  obtain ⟨w1, w2, w3⟩ := hg j hj
  have lt : nI (3 * j) < nI (3 * gl g) := ltn (by omega) (by omega)
  have i0 : oob (nI (3 * j)) 24 = false := oob_nI (by omega) (by omega)
  have i1 : oob (nI (3 * j + 1)) 24 = false := oob_nI (by omega) (by omega)
  have i2 : oob (nI (3 * j + 2)) 24 = false := oob_nI (by omega) (by omega)
  have iv : oob (nI v) 21 = false := oob_nI hv (by omega)
  have ih' : oob (nI (gh g j)) 6 = false := oob_nI (by omega) (by omega)
  have a2 : nI (3 * j) + 2 = nI (3 * j + 2) := by rw [show (2 : Int32) = nI 2 from rfl, addN]
  have a3 : nI (3 * j) + 3 = nI (3 * (j + 1)) := by rw [show (3 : Int32) = nI 3 from rfl, addN]; rfl
  have c0 := clN (j := 3 * j) (by omega)
  have c1 := clN (j := 3 * j + 1) (by omega)
  have c2 := clN (j := 3 * j + 2) (by omega)
  have cv := clN (j := v) (by omega)
  have ch := clN (j := gh g j) (by omega)
  have ek : (nI (gm g j) = nI k) = (gm g j = k) := eqN (by omega) (by omega)
  have ee : (en (F (gh g j)) = en (gf g j)) = (F (gh g j) = gf g j) := en_inj (fun b hb => by have := hF5 _ _ hb; omega) (fun b hb => by have := w2 b hb; omega)
  have hf := hF _ w1
  by_cases k1 : gm g j = k
  · by_cases k2 : F (gh g j) = gf g j
    · have eq : pI (Q0 ∧ ∀ i, i < j + 1 → gm g i = k → F (gh g i) = gf g i) = ar σ 46 0 v := by
        rw [hm]
        refine pI_c ⟨fun z => ⟨z.1, fun i hi => z.2 i (by omega)⟩, fun z => ⟨z.1, fun i hi hk => ?_⟩⟩
        by_cases e : i = j
        · rw [e]; exact k2
        · exact z.2 i (by omega) hk
      rw [eq]
      refine ⟨vI 1, ?_⟩
      rw [s193_77, h.1, mul3N', if_pos lt]
      simp only [s193_88, s193_97, s193_102, s193_113, s193_114, s193_123, s193_126, s193_131, s193_143, s193_149, s193_153, s193_154, a2, a3, add1N, i0, i1, i2, iv, ih', c0, c1, c2, cv, ch, r1, r2, r3, hf, ek.trans (eq_true k1), ee.trans (eq_true k2), Option.bind_some, Option.toList_some, Option.toList_none, List.cons_append, List.nil_append, true_or, or_true, if_true, if_false, i10, i01, Bool.false_eq_true]
    · have eq : pI (Q0 ∧ ∀ i, i < j + 1 → gm g i = k → F (gh g i) = gf g i) = 0 := pI_f (fun z => k2 (z.2 j (by omega) k1))
      rw [eq]
      refine ⟨vI 0, ?_⟩
      rw [s193_77, h.1, mul3N', if_pos lt]
      simp only [s193_88, s193_97, s193_102, s193_113, s193_114, s193_123, s193_130, s193_131, s193_152, s193_153, s193_154, a2, a3, add1N, i0, i1, i2, iv, ih', c0, c1, c2, cv, ch, r1, r2, r3, hf, ek.trans (eq_true k1), ee.trans (eq_false k2), Option.bind_some, Option.toList_some, Option.toList_none, List.cons_append, List.nil_append, true_or, or_true, if_true, if_false, i10, i01, Bool.false_eq_true]
  · have eq : pI (Q0 ∧ ∀ i, i < j + 1 → gm g i = k → F (gh g i) = gf g i) = ar σ 46 0 v := by
      rw [hm]
      refine pI_c ⟨fun z => ⟨z.1, fun i hi => z.2 i (by omega)⟩, fun z => ⟨z.1, fun i hi hk => ?_⟩⟩
      by_cases e : i = j
      · rw [e] at hk; exact absurd hk k1
      · exact z.2 i (by omega) hk
    rw [eq]
    refine ⟨vI 1, ?_⟩
    rw [s193_77, h.1, mul3N', if_pos lt]
    simp only [s193_88, s193_97, s193_126, s193_131, s193_143, s193_149, s193_153, s193_154, a2, a3, i2, iv, c2, cv, r3, ek.trans (eq_false k1), Option.bind_some, Option.toList_some, Option.toList_none, List.cons_append, List.nil_append, true_or, or_true, if_true, if_false, i10, i01, Bool.false_eq_true]
theorem l_sights {g : Sg} {F : Nat → Option Nat} {v k : Nat} {Q0 : Prop} {x1 x2 : Int32} (h6 : n ≤ 6) (hg : sgW n g) (hv : v < 21) (hk : k < 6) (hF5 : ∀ a b, F a = some b → b < n) : ∀ f j, j + f = gl g → ∀ (σ : St) (v6 : IV), Sm σ g → Fc σ n F → ar σ 46 0 v = pI (Q0 ∧ ∀ i, i < j → gm g i = k → F (gh g i) = gf g i) → ∃ σ' v6', exec d 193 77 [vR 7 0, vI x1, vI x2, vI (nI v), vI (nI k), vI (nI (3 * j)), v6] [] σ = exec d 193 160 [vR 7 0, vI x1, vI x2, vI (nI v), vI (nI k), vI (nI (3 * gl g)), v6'] [] σ' ∧ ar σ' 46 0 v = pI (Q0 ∧ ∀ i, i < gl g → gm g i = k → F (gh g i) = gf g i) ∧ (∀ u, u ≠ v → ar σ' 46 0 u = ar σ 46 0 u) ∧ Ag (fun x q => x = 46 ∧ q = 0) σ σ' := by
  intro f
  induction f with
  | zero =>
    intro j hj σ v6 h hF hm
    have e : j = gl g := by omega
    rw [e] at hm
    refine ⟨σ, v6, ?_, hm, fun _ _ => rfl, Ag.rf⟩
    rw [e, s193_77, h.1, mul3N', if_neg nlt]
  | succ f ih =>
    intro j hj σ v6 h hF hm
    obtain ⟨v6', e1⟩ := l_sight1 (d := d) (x1 := x1) (x2 := x2) (v6 := v6) h6 hg hv hk hF5 (by omega) h hF hm
    have g1 : Ag (fun x q => x = 46 ∧ q = 0) σ (se σ 46 0 v (pI (Q0 ∧ ∀ i, i < j + 1 → gm g i = k → F (gh g i) = gf g i))) := Ag.sw ⟨rfl, rfl⟩
    obtain ⟨σ2, v7, e2, q1, q2, g2⟩ := ih (j + 1) (by omega) _ v6' (h.ag g1 (by omega) (by omega)) (hF.ag g1 (by omega)) (by rw [se_def, ar_sw_s, upd_s])
    refine ⟨σ2, v7, e1.trans e2, q1, fun u hu => ?_, g1.tr g2⟩
    rw [q2 u hu, se_def, ar_sw_s, upd_n hu]
/-- what is laid for so many angers -/
def SpD (σ : St) (n : Nat) (K W A : Nat → Int32) (a b : Nat) (g : Sg) (v : Nat) : Prop := ∀ u, u < v → ar σ 46 0 u = (if gOk n K W A a b g u = true then 1 else 0) ∧ ∀ k, k < 6 → ar σ 45 0 (6 * u + k) = en (gR n K W A a b u k a)
theorem l_spanM {a b v : Nat} {g : Sg} (h6 : n ≤ 6) (ha : a < n) (hb : b < n) (hab : a ≠ b) (hv : v < 21) (hg : sgW n g) (hW1 : W01 W) (hz : ZA n (gA A a b v)) : ∀ f k, k + f = 6 → ∀ (σ : St) (v5 v6 : IV), Mr σ n K W → Tb σ 41 (morN n K W k (gA A a b v)) → Fc σ n (gR n K W A a b v k) → Sm σ g → ar σ 46 0 v = pI (∀ i, i < gl g → gm g i < k → gR n K W A a b v (gm g i) (gh g i) = gf g i) → ∃ σ' v5' v6', exec (d + 3) 193 49 [vR 7 0, vI (nI a), vI (nI b), vI (nI v), vI (nI k), v5, v6] [] σ = exec (d + 3) 193 175 [vR 7 0, vI (nI a), vI (nI b), vI (nI v), vI (nI 6), v5', v6'] [] σ' ∧ ar σ' 46 0 v = pI (∀ i, i < gl g → gm g i < 6 → gR n K W A a b v (gm g i) (gh g i) = gf g i) ∧ (∀ u, u ≠ v → ar σ' 46 0 u = ar σ 46 0 u) ∧ (∀ x, k ≤ x → x < 6 → ar σ' 45 0 (6 * v + x) = en (gR n K W A a b v x a)) ∧ (∀ j, (j < 6 * v + k ∨ 6 * v + 6 ≤ j) → ar σ' 45 0 j = ar σ 45 0 j) ∧ Ag QM σ σ' := by
  intro f
  induction f with
  | zero =>
    intro k hk σ v5 v6 h hT hF hS hm
    have e : k = 6 := by omega
    subst e
    refine ⟨σ, v5, v6, ?_, hm, fun _ _ => rfl, fun x h1 h2 => by omega, fun _ _ => rfl, Ag.rf⟩
    rw [s193_49, show (6 : Int32) = nI 6 from rfl, if_neg nlt]
  | succ f ih =>
    intro k hk σ v5 v6 h hT hF hS hm
    have lt6 : nI k < 6 := by rw [show (6 : Int32) = nI 6 from rfl]; exact ltn (by omega) (by omega)
    have hv5 : ∀ x y, gR n K W A a b v k x = some y → y < n := fun x y h => pick_lt h
    have ia : oob (nI a) 6 = false := oob_nI (by omega) (by omega)
    have iw : oob (nI (6 * v + k)) 126 = false := oob_nI (by omega) (by omega)
    have cw := clN (j := 6 * v + k) (by omega)
    have ca := cl6 (show a < 6 by omega)
    have hfa := hF a ha
    obtain ⟨σ1, hσ1⟩ : ∃ x, x = se σ 45 0 (6 * v + k) (en (gR n K W A a b v k a)) := ⟨_, rfl⟩
    have g1 : Ag (fun x q => x = 45 ∧ q = 0) σ σ1 := by rw [hσ1]; exact Ag.sw ⟨rfl, rfl⟩
    obtain ⟨σ2, w6, e2, q2, u2, g2⟩ := l_sights (d := d + 3) (Q0 := ∀ i, i < gl g → gm g i < k → gR n K W A a b v (gm g i) (gh g i) = gf g i) (x1 := nI a) (x2 := nI b) h6 hg hv (show k < 6 by omega) hv5 (gl g) 0 (by omega) σ1 v6 (hS.ag g1 (by omega) (by omega)) (hF.ag g1 (by omega)) (by rw [g1.1 46 0 (by omega), hm]; exact pI_c ⟨fun z => ⟨z, fun i hi => by omega⟩, fun z => z.1⟩)
    have g12 : Ag QM σ σ2 := (g1.mono (fun x q z => by unfold QM; omega)).tr (g2.mono (fun x q z => by unfold QM; omega))
    have T2 : Tb σ2 41 (morN n K W k (gA A a b v)) := (hT.ag g1 (by omega)).ag g2 (by omega)
    obtain ⟨σ3, e3, T3, F3, g3⟩ := m_goMorning (d := d) (Or.inr rfl) h6 hW1 (h.qm g12) T2 (ZA_morN k _ hz)
    rw [← morN_succ] at T3 F3
    have g13 := g12.tr g3.gq
    have m3 : ar σ3 46 0 v = pI (∀ i, i < gl g → gm g i < k + 1 → gR n K W A a b v (gm g i) (gh g i) = gf g i) := by
      rw [g3.1 46 0 (by unfold GM; omega), q2]
      refine pI_c ⟨fun z i hi hk => ?_, fun z => ⟨fun i hi hk => z i hi (by omega), fun i hi hk => ?_⟩⟩
      · by_cases e : gm g i = k
        · have := z.2 i hi e
          rw [e]
          exact this
        · exact z.1 i hi (by omega)
      · have := z i hi (by omega)
        rw [hk] at this
        exact this
    obtain ⟨σ4, y5, y6, e4, q4, u4, w4, o4, g4⟩ := ih (k + 1) (by omega) σ3 (vI (nI (3 * gl g))) w6 (h.qm g13) T3 F3 (hS.qm g13) m3
    refine ⟨σ4, y5, y6, ?_, q4, fun u hu => ?_, fun x h1 h2 => ?_, fun j hj => ?_, g13.tr g4⟩
    · have e2' : exec (d + 3) 193 77 [vR 7 0, vI (nI a), vI (nI b), vI (nI v), vI (nI k), vI 0, v6] [] σ1 = exec (d + 3) 193 160 [vR 7 0, vI (nI a), vI (nI b), vI (nI v), vI (nI k), vI (nI (3 * gl g)), w6] [] σ2 := e2
      rw [s193_49, if_pos lt6]
      simp only [s193_56, s193_73, s193_74, ia, ca, hfa, mul6N', addN, iw, cw, ← hσ1, Option.bind_some, Option.toList_some, Option.toList_none, List.cons_append, List.nil_append, true_or, or_true, if_true, if_false, i10, i01, Bool.false_eq_true]
      rw [e2']
      simp only [s193_160, s193_168, e3, add1N, Option.bind_some, Option.toList_some, Option.toList_none, List.cons_append, List.nil_append, true_or, or_true, if_true, if_false, i10, i01, Bool.false_eq_true]
      exact e4
    · rw [u4 u hu, g3.1 46 0 (by unfold GM; omega), u2 u hu, g1.1 46 0 (by omega)]
    · by_cases e : x = k
      · rw [e, o4 _ (Or.inl (by omega)), g3.1 45 0 (by unfold GM; omega), g2.1 45 0 (by omega), hσ1, se_def, ar_sw_s, upd_s]
      · exact w4 x (by omega) h2
    · rw [o4 j (by omega), g3.1 45 0 (by unfold GM; omega), g2.1 45 0 (by omega), hσ1, se_def, ar_sw_s, upd_n (by omega)]
theorem gOk_iff {a b v : Nat} {g : Sg} : gOk n K W A a b g v = true ↔ ∀ i, i < gl g → gR n K W A a b v (gm g i) (gh g i) = gf g i := by
  unfold gOk
  rw [allb_t]
  exact ⟨fun z i hi => of_decide_eq_true (z i hi), fun z i hi => decide_eq_true (z i hi)⟩
theorem m_laySpan {a b : Nat} {g : Sg} (h6 : n ≤ 6) (ha : a < n) (hb : b < n) (hab : a ≠ b) (hg : sgW n g) (hW1 : W01 W) (hz : ZA n A) (h : Mr σ n K W) (hT : Tb σ 35 A) (hS : Sm σ g) : ∃ σ', call (d + 3) 193 [vR 7 0, vI (nI a), vI (nI b)] σ = some (none, σ') ∧ SpD σ' n K W A a b g 21 ∧ Ag QM σ σ' := by
  have i1 : oob (nI (6 * a + b)) 36 = false := oob_nI (by omega) (by omega)
  have j1 := clN (j := 6 * a + b) (by omega)
  have key : ∀ f v, v + f = 21 → ∀ (σ : St) (v4 v5 v6 : IV), Mr σ n K W → Tb σ 35 A → Sm σ g → SpD σ n K W A a b g v → ∃ σ', exec (d + 3) 193 2 [vR 7 0, vI (nI a), vI (nI b), vI (nI v), v4, v5, v6] [] σ = some (none, σ') ∧ SpD σ' n K W A a b g 21 ∧ Ag QM σ σ' := by
    intro f
    induction f with
    | zero =>
      intro v hv σ v4 v5 v6 h hT hS hD
      have e : v = 21 := by omega
      subst e
      exact ⟨σ, by rw [s193_2, show (21 : Int32) = nI 21 from rfl, if_neg nlt, s193_181], hD, Ag.rf⟩
    | succ f ih =>
      intro v hv σ v4 v5 v6 h hT hS hD
      have lt21 : nI v < 21 := by rw [show (21 : Int32) = nI 21 from rfl]; exact ltn (by omega) (by omega)
      have iv : oob (nI v) 21 = false := oob_nI (by omega) (by omega)
      have cv := clN (j := v) (by omega)
      obtain ⟨σ1, e1, T1, g1⟩ := m_toWork (d := d + 2) hT
      obtain ⟨σ2, hσ2⟩ : ∃ y, y = se σ1 41 0 (6 * a + b) (nI v) := ⟨_, rfl⟩
      have g2 : Ag (fun x q => x = 41 ∧ q = 0) σ1 σ2 := by rw [hσ2]; exact Ag.sw ⟨rfl, rfl⟩
      have T2 : Tb σ2 41 (gA A a b v) := fun j hj => by
        rw [hσ2, se_def, ar_sw_s]
        unfold gA
        rw [upd_if, upd_if, T1 j hj]
      have hz2 : ZA n (gA A a b v) := fun j hj hc => by
        unfold gA
        rw [upd_n (by omega)]
        exact hz j hj hc
      obtain ⟨σ3, hσ3⟩ : ∃ y, y = se σ2 46 0 v 1 := ⟨_, rfl⟩
      have g3 : Ag (fun x q => x = 46 ∧ q = 0) σ2 σ3 := by rw [hσ3]; exact Ag.sw ⟨rfl, rfl⟩
      have g13 : Ag QM σ σ3 := (g1.wq.tr g2.wq).tr (g3.mono (fun x q z => by unfold QM; omega))
      have T3 : Tb σ3 41 (gA A a b v) := T2.ag g3 (by omega)
      obtain ⟨σ4, e4, F4, g4⟩ := m_layFaces' (d := d + 1) (Or.inr rfl) h6 hW1 (h.qm g13) T3
      have g14 := g13.tr g4.fq
      have T4 : Tb σ4 41 (gA A a b v) := T3.ag g4 (by omega)
      have m4 : ar σ4 46 0 v = pI (∀ i, i < gl g → gm g i < 0 → gR n K W A a b v (gm g i) (gh g i) = gf g i) := by
        rw [g4.1 46 0 (by omega), hσ3, se_def, ar_sw_s, upd_s, pI_t (fun i hi hk => by omega)]
      obtain ⟨σ5, w5, w6, e5, q5, u5, y5, o5, g5⟩ := l_spanM (d := d) h6 ha hb hab (show v < 21 by omega) hg hW1 hz2 6 0 rfl σ4 v5 v6 (h.qm g14) T4 F4 (hS.qm g14) m4
      have g15 := g14.tr g5
      have D5 : SpD σ5 n K W A a b g (v + 1) := fun u hu => by
        by_cases e : u = v
        · rw [e]
          refine ⟨?_, fun k hk => y5 k (Nat.zero_le _) hk⟩
          rw [q5]
          by_cases c : gOk n K W A a b g v = true
          · rw [if_pos c]
            exact pI_t (fun i hi _ => gOk_iff.mp c i hi)
          · rw [if_neg c]
            exact pI_f (fun z => c (gOk_iff.mpr (fun i hi => z i hi (hg i hi).2.2)))
        · obtain ⟨d1, d2⟩ := hD u (by omega)
          refine ⟨?_, fun k hk => ?_⟩
          · rw [u5 u e, g4.1 46 0 (by omega), hσ3, se_def, ar_sw_s, upd_n e, g2.1 46 0 (by omega), g1.1 46 0 (by omega)]
            exact d1
          · rw [o5 _ (Or.inl (by omega)), g4.1 45 0 (by omega), g3.1 45 0 (by omega), g2.1 45 0 (by omega), g1.1 45 0 (by omega)]
            exact d2 k hk
      obtain ⟨σ6, e6, D6, g6⟩ := ih (v + 1) (by omega) σ5 (vI (nI 6)) w5 w6 (h.qm g15) (hT.qm g15) (hS.qm g15) D5
      refine ⟨σ6, ?_, D6, g15.tr g6⟩
      have e5' : exec (d + 3) 193 49 [vR 7 0, vI (nI a), vI (nI b), vI (nI v), vI 0, v5, v6] [] σ4 = exec (d + 3) 193 175 [vR 7 0, vI (nI a), vI (nI b), vI (nI v), vI (nI 6), w5, w6] [] σ5 := e5
      rw [hσ3, hσ2] at e4
      rw [s193_2, if_pos lt21]
      simp only [s193_8, s193_19, s193_31, s193_38, s193_46, e1, mul6N', addN, i1, j1, iv, cv, e4, Option.bind_some, Option.toList_some, Option.toList_none, List.cons_append, List.nil_append, true_or, or_true, if_true, if_false, i10, i01, Bool.false_eq_true]
      rw [e5', s193_175, add1N]
      exact e6
  obtain ⟨σ', e, D, g'⟩ := key 21 0 rfl σ vN vN vN h hT hS (fun u hu => by omega)
  exact ⟨σ', by rw [s193_e, s193_0]; exact e, D, g'⟩
variable {a b : Nat} {g : Sg}
theorem m_spanMany (h : SpD σ n K W A a b g 21) : call d 194 [vR 7 0] σ = some (some (vI (nI (cn (gOk n K W A a b g) 21))), σ) := by
  have key : ∀ f v, v + f = 21 → exec d 194 4 [vR 7 0, vI (nI (cn (gOk n K W A a b g) v)), vI (nI v)] [] σ = some (some (vI (nI (cn (gOk n K W A a b g) 21))), σ) := by
    intro f
    induction f with
    | zero =>
      intro v hv
      have e : v = 21 := by omega
      subst e
      rw [s194_4, show (21 : Int32) = nI 21 from rfl, if_neg nlt, s194_25]
    | succ f ih =>
      intro v hv
      have lt21 : nI v < 21 := by rw [show (21 : Int32) = nI 21 from rfl]; exact ltn (by omega) (by omega)
      have iv : oob (nI v) 21 = false := oob_nI (by omega) (by omega)
      have cv := clN (j := v) (by omega)
      have hm := (h v (by omega)).1
      rw [s194_4, if_pos lt21]
      simp only [s194_10, s194_17, iv, cv, hm, add1N, Option.bind_some, Option.toList_some, Option.toList_none, List.cons_append, List.nil_append, true_or, or_true, if_true, if_false, i10, i01, Bool.false_eq_true]
      refine Eq.trans ?_ (ih (v + 1) (by omega))
      rw [cn]
      by_cases c : gOk n K W A a b g v = true
      · rw [if_pos c, if_pos c, add1N]
      · rw [if_neg c, if_neg c, show (0 : Int32) = nI 0 from rfl, addN]
        rfl
  rw [s194_e, s194_0]
  exact key 21 0 rfl
theorem lst_mono {p : Nat → Bool} {x b : Nat} (h : lst p b = some x) : ∀ f, lst p (b + f) = some x
  | 0 => h
  | f + 1 => by rw [← Nat.add_assoc, lst, lst_mono h f]
theorem m_spanLeast (h : SpD σ n K W A a b g 21) : call d 195 [vR 7 0] σ = some (some (vI (en (lst (gOk n K W A a b g) 21))), σ) := by
  have key : ∀ f v, v + f = 21 → lst (gOk n K W A a b g) v = none → exec d 195 2 [vR 7 0, vI (nI v)] [] σ = some (some (vI (en (lst (gOk n K W A a b g) 21))), σ) := by
    intro f
    induction f with
    | zero =>
      intro v hv hl
      have e : v = 21 := by omega
      subst e
      rw [s195_2, show (21 : Int32) = nI 21 from rfl, if_neg nlt, s195_23, show (21 : Int32) = nI 21 from rfl, if_pos rfl, s195_29, s195_34, hl]
      rfl
    | succ f ih =>
      intro v hv hl
      have lt21 : nI v < 21 := by rw [show (21 : Int32) = nI 21 from rfl]; exact ltn (by omega) (by omega)
      have ne21 : ¬ nI v = 21 := fun z => by rw [z] at lt21; exact Int32.lt_irrefl lt21
      have iv : ¬ oob (nI v) 21 = true := by rw [oob_nI (by omega) (by omega)]; exact Bool.false_ne_true
      have cv := clN (j := v) (by omega)
      have hm := (h v (by omega)).1
      rw [s195_2, if_pos lt21, s195_8, if_neg iv, cv, hm, s195_14]
      by_cases c : gOk n K W A a b g v = true
      · have hs : lst (gOk n K W A a b g) (v + 1) = some v := by rw [lst, hl, if_pos c]
        have hs' : lst (gOk n K W A a b g) 21 = some v := by
          have := lst_mono hs f
          rw [show v + 1 + f = 21 by omega] at this
          exact this
        rw [if_pos c, if_neg (show ¬ (1 : Int32) = 0 by decide), s195_23, if_neg ne21, s195_33, s195_34, hs']
        rfl
      · rw [if_neg c, if_pos rfl, s195_17, add1N]
        exact ih (v + 1) (by omega) (by rw [lst, hl, if_neg c])
  rw [s195_e, s195_0]
  exact key 21 0 rfl rfl
theorem m_spanMost (h : SpD σ n K W A a b g 21) : call d 196 [vR 7 0] σ = some (some (vI (en (gst (gOk n K W A a b g) 21))), σ) := by
  have m1 : exec d 196 3 [vR 7 0, vI (-1)] [] σ = some (some (vI (-1)), σ) := by
    rw [s196_3, if_pos (show (-1 : Int32) < 0 by decide), s196_22]
  have key : ∀ v, v < 21 → gst (gOk n K W A a b g) 21 = gst (gOk n K W A a b g) (v + 1) → exec d 196 3 [vR 7 0, vI (nI v)] [] σ = some (some (vI (en (gst (gOk n K W A a b g) 21))), σ) := by
    intro v
    induction v with
    | zero =>
      intro hv hg'
      have hm := (h 0 (by omega)).1
      have iv : ¬ oob (nI 0) 21 = true := by rw [oob_nI (by omega) (by omega)]; exact Bool.false_ne_true
      rw [s196_3, if_neg (nI_pos (by omega)), s196_7, if_neg iv, clN (by omega), hm, s196_13, hg', gst]
      by_cases c : gOk n K W A a b g 0 = true
      · rw [if_pos c, if_pos c, if_neg (show ¬ (1 : Int32) = 0 by decide), s196_22]
        rfl
      · rw [if_neg c, if_neg c, if_pos rfl, s196_16]
        exact m1
    | succ v ih =>
      intro hv hg'
      have hm := (h (v + 1) hv).1
      have iv : ¬ oob (nI (v + 1)) 21 = true := by rw [oob_nI hv (by omega)]; exact Bool.false_ne_true
      rw [s196_3, if_neg (nI_pos (by omega)), s196_7, if_neg iv, clN (by omega), hm, s196_13]
      by_cases c : gOk n K W A a b g (v + 1) = true
      · rw [hg', gst, if_pos c, if_pos c, if_neg (show ¬ (1 : Int32) = 0 by decide), s196_22]
        rfl
      · rw [if_neg c, if_pos rfl, s196_16, pk_m1]
        exact ih (by omega) (by rw [hg', gst, if_neg c])
  rw [s196_e, s196_0]
  exact key 20 (by omega) rfl
end M4

/-! Calls of both: images. -/
section O7
variable {d : Nat} {σ σ' : St} {X : Ab}
theorem l_image76 : exec d 202 76 [vR 7 0] [] σ = some (some (vI (ar σ 7 0 4)), sw σ 7 0 (upd (upd (upd (upd (upd (upd (ar σ 7 0) 31 (ar σ 7 0 4)) 32 (ar σ 7 0 5)) 33 (ar σ 7 0 6)) 34 (ar σ 7 0 7)) 35 (ar σ 7 0 24)) 30 (ar σ 7 0 8))) := by
  rw [s202_76]
  simp only [ar_sw_t, ar_sw_s, se_def, sw_sw, ne_eq, not_false_eq_true, Nat.reduceEqDiff, upd_n, upd_s]
theorem l_restore80 : exec d 203 80 [vR 7 0] [] σ = some (some (vI (ar σ 7 0 31)), sw σ 7 0 (upd (upd (upd (upd (upd (ar σ 7 0) 4 (ar σ 7 0 31)) 5 (ar σ 7 0 32)) 6 (ar σ 7 0 33)) 7 (ar σ 7 0 34)) 24 (ar σ 7 0 35))) := by
  rw [s203_80]
  simp only [ar_sw_t, ar_sw_s, se_def, sw_sw, ne_eq, not_false_eq_true, Nat.reduceEqDiff, upd_n, upd_s]
/-- one array laid onto another one -/
def cpy (σ : St) (t t' : Nat) : St := sw σ t' 0 (fun j => if j < lenT t then ar σ t 0 j else ar σ t' 0 j)
theorem cpy_at {t t' x : Nat} (h : x ≠ t') : ar (cpy σ t t') x 0 = ar σ x 0 := ar_sw_t h
theorem cpy_to {t t' j : Nat} (h : j < lenT t) : ar (cpy σ t t') t' 0 j = ar σ t 0 j := by
  unfold cpy
  rw [ar_sw_s, if_pos h]
theorem cpy_q {t t' x q : Nat} (h : q ≠ 0) : ar (cpy σ t t') x q = ar σ x q := ar_sw_q h
theorem m_copy0 {t t' : Nat} (ht : t < 60) (h0 : 0 < lenT t) (hl : lenT t = lenT t') (h1 : lenT t ≤ 1000) (hne : t ≠ t') : call d 132 [vR t 0, vR t' 0] σ = some (none, cpy σ t t') := m_copy ht h0 hl h1 hne
/-- six of them -/
def cpy6 (σ : St) (a a' b b' c c' e e' f f' g g' : Nat) : St := cpy (cpy (cpy (cpy (cpy (cpy σ a a') b b') c c') e e') f f') g g'
theorem op_image (hw : Wf σ) (hc : CAt σ X) (hm : MAt σ X) (hx : WfX X) : Step d 119 202 [] X σ := by
  have h6 := hx.1.2.1
  have hn := hc.1.1.1
  by_cases c0 : qn (xs X) = 0
  · rw [c0] at hn
    refine Step.rd hw hc hm hx (v := vI (-103)) (σ1 := σ) ?_ Ag.rf (fun m => ⟨σ, ?_, QF.of Ag.rf⟩)
    · simp only [s119_e, s119_0, s119_7, s119_10, c_stands_f hn, Option.bind_some, Option.toList_some, Option.toList_none, List.cons_append, List.nil_append, true_or, or_true, if_true, if_false, i10, i01, Bool.false_eq_true]
    · simp only [s202_e, s202_0, s202_4, s202_7, m_lacks_f m.1.1 c0, Option.bind_some, Option.toList_some, Option.toList_none, List.cons_append, List.nil_append, true_or, or_true, if_true, if_false, i10, i01, Bool.false_eq_true]
  · have p0 : 0 < qn (xs X) := by omega
    obtain ⟨σ1, e1, S1, g1⟩ := c_copySq (d := d + 11) (q := 1) (q' := 0) (by decide) hc.1
    have G1 : SgAt σ1 0 (xg X) := hc.2.1.fr (fun t ht => g1.1 t 0 (by unfold SB; omega))
    obtain ⟨σ2, e2, G2, g2⟩ := c_seenCopy (d := d + 11) (q := 1) (q' := 0) (by decide) G1
    obtain ⟨σ3, hσ3⟩ : ∃ σ3, σ3 = se σ2 6 0 8 1 := ⟨_, rfl⟩
    have f6 : ar σ3 6 0 = upd (ar σ2 6 0) 8 1 := by rw [hσ3, se_def, ar_sw_s]
    have o6 : ar σ2 6 0 = ar σ 6 0 := by rw [g2.1 6 0 (by unfold GB; omega), g1.1 6 0 (by unfold SB; omega)]
    have fo : ∀ t q, t ≠ 6 → ar σ3 t q = ar σ2 t q := fun t q h => by rw [hσ3, se_def, ar_sw_t h]
    have o0 : ∀ t, t ≠ 6 → ar σ3 t 0 = ar σ t 0 := fun t h => by rw [fo t 0 h, g2.1 t 0 (by unfold GB; omega), g1.1 t 0 (by unfold SB; omega)]
    have gC : Ag CB σ σ3 := ((CB.sb g1).tr (CB.gb g2)).tr (by rw [hσ3]; exact Ag.sw (Or.inl (Nat.le_refl 6)))
    have c3 : CAt σ3 (xs X, xg X, xL X, xp X, some (xs X, xg X), xr X, xc X, xa X) := by
      obtain ⟨h1, h2, h3, h4, h5, h6, h7⟩ := hc
      refine ⟨h1.fr (fun t ht => o0 t (by omega)), h2.fr (fun t ht => o0 t (by omega)), h3.fr (fun t ht => o0 t (by omega)), ⟨S1.fr (fun t ht => by rw [fo t 1 (by omega), g2.1 t 1 (by unfold GB; omega)]), G2.fr (fun t ht => fo t 1 (by omega)), by rw [f6, upd_s]⟩, ?_, ?_, ?_⟩
      · rw [f6, upd_n (by decide), o6]; exact h5
      · rw [f6, upd_n (by decide), o6]; exact h6
      · rw [f6, upd_n (by decide), o6]; exact h7
    have m3 := hm.cb gC
    obtain ⟨τ, hτ⟩ : ∃ τ, τ = cpy6 σ3 31 48 33 49 34 50 35 51 36 52 44 53 := ⟨_, rfl⟩
    have τo : ∀ t, ¬ (48 ≤ t ∧ t ≤ 53) → ar τ t 0 = ar σ3 t 0 := fun t h => by
      rw [hτ]
      unfold cpy6
      rw [cpy_at (by omega), cpy_at (by omega), cpy_at (by omega), cpy_at (by omega), cpy_at (by omega), cpy_at (by omega)]
    have τq : ∀ t q, q ≠ 0 → ar τ t q = ar σ3 t q := fun t q h => by
      rw [hτ]
      unfold cpy6
      rw [cpy_q h, cpy_q h, cpy_q h, cpy_q h, cpy_q h, cpy_q h]
    have τs : τ.2 = σ3.2 := by rw [hτ]; rfl
    have t48 : ∀ j, j < 6 → ar τ 48 0 j = ar σ3 31 0 j := fun j hj => by
      rw [hτ]
      unfold cpy6
      rw [cpy_at (by decide), cpy_at (by decide), cpy_at (by decide), cpy_at (by decide), cpy_at (by decide), cpy_to hj]
    have t49 : ∀ j, j < 6 → ar τ 49 0 j = ar σ3 33 0 j := fun j hj => by
      rw [hτ]
      unfold cpy6
      rw [cpy_at (by decide), cpy_at (by decide), cpy_at (by decide), cpy_at (by decide), cpy_to hj, cpy_at (by decide)]
    have t50 : ∀ j, j < 6 → ar τ 50 0 j = ar σ3 34 0 j := fun j hj => by
      rw [hτ]
      unfold cpy6
      rw [cpy_at (by decide), cpy_at (by decide), cpy_at (by decide), cpy_to hj, cpy_at (by decide), cpy_at (by decide)]
    have t51 : ∀ j, j < 36 → ar τ 51 0 j = ar σ3 35 0 j := fun j hj => by
      rw [hτ]
      unfold cpy6
      rw [cpy_at (by decide), cpy_at (by decide), cpy_to hj, cpy_at (by decide), cpy_at (by decide), cpy_at (by decide)]
    have t52 : ∀ j, j < 36 → ar τ 52 0 j = ar σ3 36 0 j := fun j hj => by
      rw [hτ]
      unfold cpy6
      rw [cpy_at (by decide), cpy_to hj, cpy_at (by decide), cpy_at (by decide), cpy_at (by decide), cpy_at (by decide)]
    have t53 : ∀ j, j < 24 → ar τ 53 0 j = ar σ3 44 0 j := fun j hj => by
      rw [hτ]
      unfold cpy6
      rw [cpy_to hj, cpy_at (by decide), cpy_at (by decide), cpy_at (by decide), cpy_at (by decide), cpy_at (by decide)]
    have τ7 : ar τ 7 0 = ar σ3 7 0 := τo 7 (by omega)
    obtain ⟨m1, m2, m4, m5, ⟨w1, w2, w3, w4, w5, w6, w7⟩, m7, m8, m9, m10⟩ := m3
    have hmC : CAt σ3 X → True := fun _ => trivial
    obtain ⟨ρ, hρ⟩ : ∃ ρ, ρ = sw τ 7 0 (upd (upd (upd (upd (upd (upd (ar τ 7 0) 31 (ar τ 7 0 4)) 32 (ar τ 7 0 5)) 33 (ar τ 7 0 6)) 34 (ar τ 7 0 7)) 35 (ar τ 7 0 24)) 30 (ar τ 7 0 8)) := ⟨_, rfl⟩
    have ρ7 : ar ρ 7 0 = upd (upd (upd (upd (upd (upd (ar σ3 7 0) 31 (ar σ3 7 0 4)) 32 (ar σ3 7 0 5)) 33 (ar σ3 7 0 6)) 34 (ar σ3 7 0 7)) 35 (ar σ3 7 0 24)) 30 (ar σ3 7 0 8) := by rw [hρ, ar_sw_s, τ7]
    have ρo : ∀ t, t ≠ 7 → ar ρ t 0 = ar τ t 0 := fun t h => by rw [hρ, ar_sw_t h]
    have ρl : ∀ j, j < 30 ∨ 35 < j → ar ρ 7 0 j = ar σ3 7 0 j := fun j hj => by
      rw [ρ7, upd_n (by omega), upd_n (by omega), upd_n (by omega), upd_n (by omega), upd_n (by omega), upd_n (by omega)]
    have ρt : ∀ t, t ≠ 7 → ¬ (48 ≤ t ∧ t ≤ 53) → ar ρ t 0 = ar σ3 t 0 := fun t h1 h2 => by rw [ρo t h1, τo t h2]
    refine Step.mk hw (v := vI (nI (qm (xs X)))) (σ1 := σ3) (σ2 := ρ) (X' := (xs X, xg X, xL X, xp X, some (xs X, xg X), xr X, xc X, xa X)) ?_ gC c3 ?_ ⟨fun t q hn => ?_, ?_⟩ ⟨m1.fr (ρl 3 (by omega)) (ρt 31 (by decide) (by omega)) (ρt 36 (by decide) (by omega)), fun j hj => by rw [ρt 35 (by decide) (by omega)]; exact m2 j hj, m4.fr (ρl 24 (by omega)) (ρt 44 (by decide) (by omega)), m5.fr (ρl 1 (by omega)) (ρt 30 (by decide) (by omega)), MfAt.fr ⟨w1, w2, w3, w4, w5, w6, w7⟩ (fun t h1 h2 => ρt t (by omega) (by omega)) (fun j h1 h2 => ρl j (by omega)), ⟨?_, fun i hi => ?_, fun i hi => ?_, fun i hi => ?_, fun i hi => ?_, fun i hi => ?_, ?_, ?_, ?_, ?_, ?_, fun i hi => ?_⟩, by rw [ρl 8 (by omega)]; exact m8, by rw [ρl 20 (by omega)]; exact m9, by rw [ρl 23 (by omega)]; exact m10⟩ ⟨hx.1, hx.2.1, hx.2.2.1, hx.2.2.2.1, hx.2.2.2.2.1, fun s g h => by cases h; exact ⟨hx.1, hx.2.1, hx.2.2.1, rfl, fun _ _ => rfl, p0⟩⟩ (by show xr X ≤ _; omega)
    · have r8 : ar σ3 5 0 8 = nI (qm (xs X)) := by rw [o0 5 (by decide)]; exact hc.1.2.2.2.2.1
      simp only [s119_e, s119_0, s119_7, s119_13, s119_24, s119_35, s119_40, c_stands_t hn h6 p0, e1, e2, ← hσ3, r8, Option.bind_some, Option.toList_some, Option.toList_none, List.cons_append, List.nil_append, true_or, or_true, if_true, if_false, i10, i01, Bool.false_eq_true]
    · simp only [s202_e, s202_0, s202_4, s202_10, s202_21, s202_32, s202_43, s202_54, s202_65, m_lacks_t m1.1 h6 p0, m_copy0 (show (31 : Nat) < 60 by decide) (show 0 < lenT 31 by decide) (show lenT 31 = lenT 48 from rfl) (show lenT 31 ≤ 1000 by decide) (show (31 : Nat) ≠ 48 by decide), m_copy0 (show (33 : Nat) < 60 by decide) (show 0 < lenT 33 by decide) (show lenT 33 = lenT 49 from rfl) (show lenT 33 ≤ 1000 by decide) (show (33 : Nat) ≠ 49 by decide), m_copy0 (show (34 : Nat) < 60 by decide) (show 0 < lenT 34 by decide) (show lenT 34 = lenT 50 from rfl) (show lenT 34 ≤ 1000 by decide) (show (34 : Nat) ≠ 50 by decide), m_copy0 (show (35 : Nat) < 60 by decide) (show 0 < lenT 35 by decide) (show lenT 35 = lenT 51 from rfl) (show lenT 35 ≤ 1000 by decide) (show (35 : Nat) ≠ 51 by decide), m_copy0 (show (36 : Nat) < 60 by decide) (show 0 < lenT 36 by decide) (show lenT 36 = lenT 52 from rfl) (show lenT 36 ≤ 1000 by decide) (show (36 : Nat) ≠ 52 by decide), m_copy0 (show (44 : Nat) < 60 by decide) (show 0 < lenT 44 by decide) (show lenT 44 = lenT 53 from rfl) (show lenT 44 ≤ 1000 by decide) (show (44 : Nat) ≠ 53 by decide), Option.bind_some, Option.toList_some, Option.toList_none, List.cons_append, List.nil_append, true_or, or_true, if_true, if_false, i10, i01, Bool.false_eq_true]
      have e : cpy (cpy (cpy (cpy (cpy (cpy σ3 31 48) 33 49) 34 50) 35 51) 36 52) 44 53 = τ := by rw [hτ]; rfl
      rw [e, l_image76, ← hρ, τ7, w4]
    · by_cases hq : q = 0
      · subst hq
        rw [hρ, ar_sw_t (by omega), τo t (by omega)]
      · rw [hρ, ar_sw_q hq, τq t q hq]
    · have e : ρ.2 = τ.2 := by rw [hρ]; rfl
      rw [e, τs]
    · rw [ρ7, upd_s]; exact m8
    · rw [ρo 48 (by decide), t48 i hi]; exact m1.2.1 i hi
    · have hi' : i < qn (xs X) := hi
      rw [ρo 49 (by decide), t49 i (by omega)]; exact w2 i hi
    · have hi' : i < qn (xs X) := hi
      rw [ρo 50 (by decide), t50 i (by omega)]; exact w3 i hi
    · rw [ρo 51 (by decide), t51 i hi]; exact m2 i hi
    · rw [ρo 52 (by decide), t52 i hi]; exact m1.2.2 i hi
    · rw [ρ7, upd_n (by decide), upd_n (by decide), upd_n (by decide), upd_n (by decide), upd_n (by decide), upd_s]; exact w4
    · rw [ρ7, upd_n (by decide), upd_n (by decide), upd_n (by decide), upd_n (by decide), upd_s]; exact w5
    · rw [ρ7, upd_n (by decide), upd_n (by decide), upd_n (by decide), upd_s]; exact w6
    · rw [ρ7, upd_n (by decide), upd_n (by decide), upd_s]; exact w7
    · rw [ρ7, upd_n (by decide), upd_s]; exact m4.1
    · have hi' : i < gl (xg X) := hi
      have h8 := m4.2.1
      rw [ρo 53 (by decide), t53 _ (by omega), t53 _ (by omega), t53 _ (by omega)]
      exact m4.2.2 i hi
theorem op_restore (hw : Wf σ) (hc : CAt σ X) (hm : MAt σ X) (hx : WfX X) (hr : xr X ≤ 1000) : Step d 120 203 [] X σ := by
  have h6 := hx.1.2.1
  cases hi : xi X with
  | none =>
    have hci := hc.2.2.2.1
    rw [hi] at hci
    have c8 : ar σ 6 0 8 = 0 := hci
    refine Step.rd hw hc hm hx (v := vI (-103)) (σ1 := σ) ?_ Ag.rf (fun m => ⟨σ, ?_, QF.of Ag.rf⟩)
    · rw [s120_e, s120_0, if_pos c8, s120_7]
    · have hmk := m.2.2.2.2.2.1
      rw [hi] at hmk
      obtain ⟨k, k1, k2⟩ := hmk
      have ne : ¬ ar σ 7 0 30 = ar σ 7 0 8 := fun z => by
        rw [k1, m.2.2.2.2.2.2.1] at z
        rw [en_eq (by omega) (fun b hb => by have := k2 b hb; omega)] at z
        have := k2 _ z
        omega
      rw [s203_e, s203_0, if_neg ne, s203_11]
  | some x =>
    obtain ⟨s, g⟩ := x
    obtain ⟨a1, a2, a3, a4, a5, a6⟩ := hx.2.2.2.2.2 s g hi
    have hci := hc.2.2.2.1
    rw [hi] at hci
    obtain ⟨C1, C2, C3⟩ := hci
    obtain ⟨σ1, e1, S1, g1⟩ := c_copySq (d := d + 11) (q := 0) (q' := 1) (by decide) C1
    have G1 : SgAt σ1 1 g := C2.fr (fun t ht => g1.1 t 1 (by unfold SB; omega))
    obtain ⟨σ2, e2, G2, g2⟩ := c_seenCopy (d := d + 11) (q := 0) (q' := 1) (by decide) G1
    have o6 : ar σ2 6 0 = ar σ 6 0 := by rw [g2.1 6 0 (by unfold GB; omega), g1.1 6 0 (by unfold SB; omega)]
    have o1 : ∀ t, ar σ2 t 1 = ar σ t 1 := fun t => by rw [g2.1 t 1 (by unfold GB; omega), g1.1 t 1 (by unfold SB; omega)]
    have S2 : SqAt σ2 0 s := S1.fr (fun t ht => g2.1 t 0 (by unfold GB; omega))
    have gC : Ag CB σ σ2 := (CB.sb g1).tr (CB.gb g2)
    have c2 : CAt σ2 (s, g, xL X, xp X, xi X, xr X, xc X, xa X) := by
      obtain ⟨h1, h2, h3, h4, h5, h6, h7⟩ := hc
      exact ⟨S2, G2, (h3.fr (fun t ht => g1.1 t 0 (by unfold SB; omega))).fr (fun t ht => g2.1 t 0 (by unfold GB; omega)), h4.fr (fun t ht => o1 t) (by rw [o6]), by rw [o6]; exact h5, by rw [o6]; exact h6, by rw [o6]; exact h7⟩
    have m3 := hm.cb gC
    obtain ⟨τ, hτ⟩ : ∃ τ, τ = cpy6 σ2 48 31 49 33 50 34 51 35 52 36 53 44 := ⟨_, rfl⟩
    have τo : ∀ t, ¬ (t = 31 ∨ t = 33 ∨ t = 34 ∨ t = 35 ∨ t = 36 ∨ t = 44) → ar τ t 0 = ar σ2 t 0 := fun t h => by
      rw [hτ]
      unfold cpy6
      rw [cpy_at (by omega), cpy_at (by omega), cpy_at (by omega), cpy_at (by omega), cpy_at (by omega), cpy_at (by omega)]
    have τq : ∀ t q, q ≠ 0 → ar τ t q = ar σ2 t q := fun t q h => by
      rw [hτ]
      unfold cpy6
      rw [cpy_q h, cpy_q h, cpy_q h, cpy_q h, cpy_q h, cpy_q h]
    have τs : τ.2 = σ2.2 := by rw [hτ]; rfl
    have t31 : ∀ j, j < 6 → ar τ 31 0 j = ar σ2 48 0 j := fun j hj => by
      rw [hτ]
      unfold cpy6
      rw [cpy_at (by decide), cpy_at (by decide), cpy_at (by decide), cpy_at (by decide), cpy_at (by decide), cpy_to hj]
    have t33 : ∀ j, j < 6 → ar τ 33 0 j = ar σ2 49 0 j := fun j hj => by
      rw [hτ]
      unfold cpy6
      rw [cpy_at (by decide), cpy_at (by decide), cpy_at (by decide), cpy_at (by decide), cpy_to hj, cpy_at (by decide)]
    have t34 : ∀ j, j < 6 → ar τ 34 0 j = ar σ2 50 0 j := fun j hj => by
      rw [hτ]
      unfold cpy6
      rw [cpy_at (by decide), cpy_at (by decide), cpy_at (by decide), cpy_to hj, cpy_at (by decide), cpy_at (by decide)]
    have t35 : ∀ j, j < 36 → ar τ 35 0 j = ar σ2 51 0 j := fun j hj => by
      rw [hτ]
      unfold cpy6
      rw [cpy_at (by decide), cpy_at (by decide), cpy_to hj, cpy_at (by decide), cpy_at (by decide), cpy_at (by decide)]
    have t36 : ∀ j, j < 36 → ar τ 36 0 j = ar σ2 52 0 j := fun j hj => by
      rw [hτ]
      unfold cpy6
      rw [cpy_at (by decide), cpy_to hj, cpy_at (by decide), cpy_at (by decide), cpy_at (by decide), cpy_at (by decide)]
    have t44 : ∀ j, j < 24 → ar τ 44 0 j = ar σ2 53 0 j := fun j hj => by
      rw [hτ]
      unfold cpy6
      rw [cpy_to hj, cpy_at (by decide), cpy_at (by decide), cpy_at (by decide), cpy_at (by decide), cpy_at (by decide)]
    have τ7 : ar τ 7 0 = ar σ2 7 0 := τo 7 (by omega)
    obtain ⟨m1, m2, m4, m5, ⟨w1, w2, w3, w4, w5, w6, w7⟩, m7, m8, m9, m10⟩ := m3
    have m7' := m7
    rw [hi] at m7
    obtain ⟨k1, k2, k3, k4, k5, k6, k7, k8, k9, k10, k11, k12⟩ := m7
    obtain ⟨ρ, hρ⟩ : ∃ ρ, ρ = sw τ 7 0 (upd (upd (upd (upd (upd (ar τ 7 0) 4 (ar τ 7 0 31)) 5 (ar τ 7 0 32)) 6 (ar τ 7 0 33)) 7 (ar τ 7 0 34)) 24 (ar τ 7 0 35)) := ⟨_, rfl⟩
    have ρ7 : ar ρ 7 0 = upd (upd (upd (upd (upd (ar σ2 7 0) 4 (ar σ2 7 0 31)) 5 (ar σ2 7 0 32)) 6 (ar σ2 7 0 33)) 7 (ar σ2 7 0 34)) 24 (ar σ2 7 0 35) := by rw [hρ, ar_sw_s, τ7]
    have ρo : ∀ t, t ≠ 7 → ar ρ t 0 = ar τ t 0 := fun t h => by rw [hρ, ar_sw_t h]
    have ρl : ∀ j, ¬ (j = 4 ∨ j = 5 ∨ j = 6 ∨ j = 7 ∨ j = 24) → ar ρ 7 0 j = ar σ2 7 0 j := fun j hj => by
      rw [ρ7, upd_n (by omega), upd_n (by omega), upd_n (by omega), upd_n (by omega), upd_n (by omega)]
    have ρt : ∀ t, t ≠ 7 → ¬ (t = 31 ∨ t = 33 ∨ t = 34 ∨ t = 35 ∨ t = 36 ∨ t = 44) → ar ρ t 0 = ar σ2 t 0 := fun t h1 h2 => by rw [ρo t h1, τo t h2]
    refine Step.mk hw (v := vI (nI (qm s))) (σ1 := σ2) (σ2 := ρ) (X' := (s, g, xL X, xp X, xi X, xr X, xc X, xa X)) ?_ gC c2 ?_ ⟨fun t q hn => ?_, ?_⟩ ⟨⟨by show ar ρ 7 0 3 = nI (qn s); rw [ρl 3 (by omega), a4]; exact m1.1, fun i hi => by rw [ρo 31 (by decide), t31 i hi]; exact k2 i hi, fun i hi => by rw [ρo 36 (by decide), t36 i hi]; exact k6 i hi⟩, fun j hj => by rw [ρo 35 (by decide), t35 j hj]; exact k5 j hj, ⟨?_, a3, fun i hi => ?_⟩, m5.fr (ρl 1 (by omega)) (ρt 30 (by decide) (by omega)), ⟨fun i hi => ?_, fun i hi => ?_, fun i hi => ?_, ?_, ?_, ?_, ?_⟩, m7'.fr (fun t h1 h2 => ρt t (by omega) (by omega)) (fun j h1 h2 => ρl j (by omega)), by rw [ρl 8 (by omega)]; exact m8, by rw [ρl 20 (by omega)]; exact m9, by rw [ρl 23 (by omega)]; exact m10⟩ ⟨a1, a2, a3, hx.2.2.2.1, hx.2.2.2.2.1, fun s' g' h => ?_⟩ (by show xr X ≤ _; omega)
    · have n8 : ¬ ar σ 6 0 8 = 0 := by rw [C3]; decide
      have r8 : ar σ2 5 0 8 = nI (qm s) := S2.2.2.2.2.1
      rw [s120_e, s120_0, if_neg n8]
      simp only [s120_10, s120_21, s120_32, e1, e2, r8, Option.bind_some, Option.toList_some, Option.toList_none, List.cons_append, List.nil_append, true_or, or_true, if_true, if_false, i10, i01, Bool.false_eq_true]
    · have eq30 : ar σ2 7 0 30 = ar σ2 7 0 8 := by rw [k1, m8]
      rw [s203_e, s203_0, if_pos eq30]
      simp only [s203_14, s203_25, s203_36, s203_47, s203_58, s203_69, m_copy0 (show (48 : Nat) < 60 by decide) (show 0 < lenT 48 by decide) (show lenT 48 = lenT 31 from rfl) (show lenT 48 ≤ 1000 by decide) (show (48 : Nat) ≠ 31 by decide), m_copy0 (show (49 : Nat) < 60 by decide) (show 0 < lenT 49 by decide) (show lenT 49 = lenT 33 from rfl) (show lenT 49 ≤ 1000 by decide) (show (49 : Nat) ≠ 33 by decide), m_copy0 (show (50 : Nat) < 60 by decide) (show 0 < lenT 50 by decide) (show lenT 50 = lenT 34 from rfl) (show lenT 50 ≤ 1000 by decide) (show (50 : Nat) ≠ 34 by decide), m_copy0 (show (51 : Nat) < 60 by decide) (show 0 < lenT 51 by decide) (show lenT 51 = lenT 35 from rfl) (show lenT 51 ≤ 1000 by decide) (show (51 : Nat) ≠ 35 by decide), m_copy0 (show (52 : Nat) < 60 by decide) (show 0 < lenT 52 by decide) (show lenT 52 = lenT 36 from rfl) (show lenT 52 ≤ 1000 by decide) (show (52 : Nat) ≠ 36 by decide), m_copy0 (show (53 : Nat) < 60 by decide) (show 0 < lenT 53 by decide) (show lenT 53 = lenT 44 from rfl) (show lenT 53 ≤ 1000 by decide) (show (53 : Nat) ≠ 44 by decide), Option.bind_some, Option.toList_some, Option.toList_none, List.cons_append, List.nil_append, true_or, or_true, if_true, if_false, i10, i01, Bool.false_eq_true]
      have e : cpy (cpy (cpy (cpy (cpy (cpy σ2 48 31) 49 33) 50 34) 51 35) 52 36) 53 44 = τ := by rw [hτ]; rfl
      rw [e, l_restore80, ← hρ, τ7, k7]
    · by_cases hq : q = 0
      · subst hq
        rw [hρ, ar_sw_t (by omega), τo t (by omega)]
      · rw [hρ, ar_sw_q hq, τq t q hq]
    · have e : ρ.2 = τ.2 := by rw [hρ]; rfl
      rw [e, τs]
    · show ar ρ 7 0 24 = nI (gl g)
      rw [ρ7, upd_s]; exact k11
    · have hi' : i < gl g := hi
      show ar ρ 44 0 (3 * i) = nI (gh g i) ∧ ar ρ 44 0 (3 * i + 1) = en (gf g i) ∧ ar ρ 44 0 (3 * i + 2) = nI (gm g i)
      rw [ρo 44 (by decide), t44 _ (by omega), t44 _ (by omega), t44 _ (by omega)]
      exact k12 i hi'
    · have hi' : i < qn s := hi
      show ar ρ 32 0 i = qV s i
      rw [ρt 32 (by decide) (by omega), w1 i (by omega), a5 i hi']
    · have hi' : i < qn s := hi
      show ar ρ 33 0 i = qT s i
      have hq6 := a1.2.1
      rw [ρo 33 (by decide), t33 i (by omega)]; exact k3 i hi'
    · have hi' : i < qn s := hi
      show ar ρ 34 0 i = qC s i
      have hq6 := a1.2.1
      rw [ρo 34 (by decide), t34 i (by omega)]; exact k4 i hi'
    · rw [ρ7, upd_n (by decide), upd_n (by decide), upd_n (by decide), upd_n (by decide), upd_s]; exact k7
    · rw [ρ7, upd_n (by decide), upd_n (by decide), upd_n (by decide), upd_s]; exact k8
    · rw [ρ7, upd_n (by decide), upd_n (by decide), upd_s]; exact k9
    · rw [ρ7, upd_n (by decide), upd_s]; exact k10
    · have h' : xi X = some (s', g') := h
      rw [hi] at h'
      cases h'
      exact ⟨a1, a2, a3, rfl, fun _ _ => rfl, a6⟩
end O7

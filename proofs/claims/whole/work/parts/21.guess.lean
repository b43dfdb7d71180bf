/-! Guess. -/
def ixo : Option Nat → Nat
  | none => 0
  | some b => b + 1
theorem ixo_en {o : Option Nat} : en o + 1 = nI (ixo o) := by
  cases o with
  | none => decide
  | some b => rw [en_some, add1N]; rfl
def lst (p : Nat → Bool) : Nat → Option Nat
  | 0 => none
  | b + 1 => match lst p b with
    | some x => some x
    | none => if p b = true then some b else none
def gst (p : Nat → Bool) : Nat → Option Nat
  | 0 => none
  | b + 1 => if p b = true then some b else gst p b
theorem lst_lt {p : Nat → Bool} : ∀ {n x : Nat}, lst p n = some x → x < n
  | 0, _, h => by cases h
  | b + 1, x, h => by
    rw [lst] at h
    cases hl : lst p b with
    | some y => rw [hl] at h; cases h; have := lst_lt hl; omega
    | none =>
      rw [hl] at h
      dsimp only at h
      split at h
      · cases h; omega
      · cases h
theorem gst_lt {p : Nat → Bool} : ∀ {n x : Nat}, gst p n = some x → x < n
  | 0, _, h => by cases h
  | b + 1, x, h => by
    rw [gst] at h
    split at h
    · cases h; omega
    · have := gst_lt h; omega
def mxw (f : Nat → Nat) : Nat → Nat
  | 0 => 0
  | b + 1 => if mxw f b < f b then f b else mxw f b
theorem mxw_le {f : Nat → Nat} {B : Nat} : ∀ {n : Nat}, (∀ x, x < n → f x ≤ B) → mxw f n ≤ B
  | 0, _ => Nat.zero_le _
  | b + 1, h => by
    have := mxw_le (n := b) (fun x hx => h x (by omega))
    rw [mxw]
    split
    · exact h b (by omega)
    · exact this
def blk (w : Nat → Nat) : Nat → Option Nat × Nat
  | 0 => (none, 22)
  | k + 1 => if w k < (blk w k).2 then (some k, w k) else blk w k
theorem blk_le {w : Nat → Nat} : ∀ k, (∀ x, x < k → w x ≤ 21) → (blk w k).2 ≤ 22 ∧ ∀ x, (blk w k).1 = some x → x < k
  | 0, _ => ⟨Nat.le_refl _, fun x h => by cases h⟩
  | k + 1, hw => by
    have ih := blk_le k (fun x hx => hw x (by omega))
    rw [blk]
    split
    · exact ⟨by show w k ≤ 22; have := hw k (by omega); omega, fun x h => by cases h; omega⟩
    · exact ⟨ih.1, fun x h => by have := ih.2 x h; omega⟩
section GU
variable {d : Nat} {σ : St} {n : Nat} {K W A : Nat → Int32}
def Fo : Nat → Nat → Prop := fun t q => t = 24 ∨ SB 7 t q
theorem l_foreRow {k : Nat} {v2 : IV} (h6 : n ≤ 6) (hk : k < 6) (h : Lv σ 7 n K W A) : ∃ σ', exec (d + 3) 1 8 [vR 0 0, vI (nI k), v2] [] σ = exec (d + 3) 1 43 [vR 0 0, vI (nI k), vI (nI n)] [] σ' ∧ (∀ x, x < n → ar σ' 24 k x = en (pick n K W A x)) ∧ Ag (fun t q => t = 24 ∧ q = k) σ σ' := by
  refine ⟨sw σ 24 k (fun y => if y < n then en (pick n K W A y) else ar σ 24 k y), ?_, fun x hx => by rw [ar_sw_s, if_pos hx], Ag.sw ⟨rfl, rfl⟩⟩
  have key := down0 (Pr := fun x => exec (d + 3) 1 10 [vR 0 0, vI (nI k), vI (nI x)] [] (sw σ 24 k (fun y => if y < x then en (pick n K W A y) else ar σ 24 k y)) = exec (d + 3) 1 43 [vR 0 0, vI (nI k), vI (nI n)] [] (sw σ 24 k (fun y => if y < n then en (pick n K W A y) else ar σ 24 k y))) n (fun x hx ih => ?_) ?_
  · have e0 : sw σ 24 k (fun y => if y < 0 then en (pick n K W A y) else ar σ 24 k y) = σ := sw_id (by funext y; rw [if_neg (by omega)])
    have key : exec (d + 3) 1 10 [vR 0 0, vI (nI k), vI (nI 0)] [] (sw σ 24 k (fun y => if y < 0 then en (pick n K W A y) else ar σ 24 k y)) = _ := key
    rw [e0] at key
    rw [s1_8]
    exact key
  · have e1 : upd (fun y => if y < x then en (pick n K W A y) else ar σ 24 k y) x (en (pick n K W A x)) = (fun y => if y < x + 1 then en (pick n K W A y) else ar σ 24 k y) := by
      funext y
      rw [upd_if]
      by_cases hy : y = x
      · rw [if_pos hy, if_pos (by omega), hy]
      · rw [if_neg hy]
        by_cases hy2 : y < x
        · rw [if_pos hy2, if_pos (by omega)]
        · rw [if_neg hy2, if_neg (by omega)]
    have hf := h.2.2.2.2 x hx
    rw [s1_10]
    simp only [s1_18, s1_21, s1_27, s1_36, s1_37, c_size, c_frontOf (show x < 6 by omega), ar_sw_t, ar_sw_s, se_def, sw_sw, ne_eq, not_false_eq_true, Nat.reduceEqDiff, h.1, hf, if_pos (ltn hx (show n ≤ 100000 by omega)), oob_nI hk (by decide), cl6 hk, oob_nI (show x < 6 by omega) (by decide), cl6 (show x < 6 by omega), Option.bind_some, Option.toList_some, Option.toList_none, List.cons_append, List.nil_append, true_or, or_true, if_true, if_false, i10, i01, Bool.false_eq_true, add1N, e1]
    exact ih
  · rw [s1_10]
    simp only [s1_18, c_size, ar_sw_t, ar_sw_s, se_def, sw_sw, ne_eq, not_false_eq_true, Nat.reduceEqDiff, h.1, if_neg nlt, Option.bind_some, Option.toList_some, Option.toList_none, List.cons_append, List.nil_append, true_or, or_true, if_true, if_false, i10, i01, Bool.false_eq_true]
theorem c_foresee (h6 : n ≤ 6) (h : Lv σ 7 n K W A) : ∃ σ', call (d + 3) 1 [vR 0 0] σ = some (none, σ') ∧ (∀ k x, k < 6 → x < n → ar σ' 24 k x = en (pick n K W (morN n K W k A) x)) ∧ Ag Fo σ σ' := by
  have key : ∀ f k, k + f = 6 → ∀ (σ : St) (v2 : IV), Lv σ 7 n K W (morN n K W k A) → (∀ k' x, k' < k → x < n → ar σ 24 k' x = en (pick n K W (morN n K W k' A) x)) → ∃ σ', exec (d + 3) 1 2 [vR 0 0, vI (nI k), v2] [] σ = some (none, σ') ∧ (∀ k' x, k' < 6 → x < n → ar σ' 24 k' x = en (pick n K W (morN n K W k' A) x)) ∧ Ag Fo σ σ' := by
    intro f
    induction f with
    | zero =>
      intro k hk σ v2 hL hr
      have e : k = 6 := by omega
      subst e
      exact ⟨σ, by rw [s1_2, show (6 : Int32) = nI 6 from rfl, if_neg nlt, s1_57], hr, Ag.rf⟩
    | succ f ih =>
      intro k hk σ v2 hL hr
      obtain ⟨σ1, e1, r1, g1⟩ := l_foreRow (d := d) (v2 := v2) h6 (show k < 6 by omega) hL
      obtain ⟨σ2, e2, L2, g2⟩ := c_changeAngers (d := d) h6 (hL.ag g1 (fun t ht z => by omega))
      rw [← morN_succ] at L2
      have n24 : ∀ q, ¬ SA 7 24 q := fun q => by unfold SA; omega
      obtain ⟨σ3, e3, r3, g3⟩ := ih (k + 1) (by omega) σ2 (vI (nI n)) L2 (fun k' x hk' hx => by
        rw [g2.1 _ _ (n24 k')]
        by_cases e : k' = k
        · rw [e]; exact r1 x hx
        · rw [g1.1 _ _ (fun z => e z.2)]; exact hr k' x (by omega) hx)
      refine ⟨σ3, ?_, r3, ((g1.mono (fun t q h => Or.inl h.1)).tr (g2.SA_SB.mono (fun t q h => Or.inr h))).tr g3⟩
      rw [s1_2, show (6 : Int32) = nI 6 from rfl, if_pos (ltn (show k < 6 by omega) (by omega)), e1]
      simp only [s1_43, s1_50, e2, Option.bind_some, Option.toList_some, Option.toList_none, List.cons_append, List.nil_append, true_or, or_true, if_true, if_false, i10, i01, Bool.false_eq_true, add1N]
      exact e3
  rw [s1_e, s1_0]
  exact key 6 0 (by omega) σ vN h (fun k' x hk' => by omega)
theorem c_take {a v : Nat} {Z : Nat → Option Nat} {o4 : Option Nat} {c3 : Nat} {C : Nat → Nat → Nat} (ha : a < 6) (ho : ∀ x, o4 = some x → x ≤ 1000) (hZ : ∀ k b, Z k = some b → b < 6) (hR : ∀ k, k < 6 → ar σ 24 k a = en (Z k)) (h3 : ar σ 0 0 3 = nI c3) (h4 : ar σ 0 0 4 = en o4) (h26 : ∀ k x, k < 6 → x < 7 → ar σ 26 k x = nI (C k x)) :
    ∃ σ', call d 2 [vR 0 0, vI (nI a), vI (nI v)] σ = some (none, σ') ∧ ar σ' 0 0 3 = nI (c3 + 1) ∧ ar σ' 0 0 4 = en (match o4 with | some x => some x | none => some v) ∧ ar σ' 0 0 5 = nI v ∧ (∀ k x, k < 6 → x < 7 → ar σ' 26 k x = nI (C k x + if ixo (Z k) = x then 1 else 0)) ∧ Ag (fun t q => (t = 0 ∧ q = 0) ∨ t = 26) σ σ' := by
  have key : ∀ f k, k + f = 6 → ∀ σ1 : St, (∀ k, k < 6 → ar σ1 24 k = ar σ 24 k) → (∀ k' x, k' < 6 → x < 7 → ar σ1 26 k' x = nI (C k' x + if k' < k ∧ ixo (Z k') = x then 1 else 0)) → ∃ σ', exec d 2 30 [vR 0 0, vI (nI a), vI (nI v), vI (nI k)] [] σ1 = some (none, σ') ∧ (∀ k x, k < 6 → x < 7 → ar σ' 26 k x = nI (C k x + if ixo (Z k) = x then 1 else 0)) ∧ Ag (fun t q => t = 26) σ1 σ' := by
    intro f
    induction f with
    | zero =>
      intro k hk σ1 _ h26'
      have e : k = 6 := by omega
      subst e
      refine ⟨σ1, by rw [s2_30, show (6 : Int32) = nI 6 from rfl, if_neg nlt, s2_63], fun k x hk hx => ?_, Ag.rf⟩
      rw [h26' k x hk hx]
      simp only [hk, true_and]
    | succ f ih =>
      intro k hk σ1 h24 h26'
      have hz : ixo (Z k) < 7 := by
        cases hzz : Z k with
        | none => show 0 < 7; omega
        | some b => have := hZ k b hzz; show b + 1 < 7; omega
      have e24 : ar σ1 24 k a = en (Z k) := by rw [h24 k (by omega)]; exact hR k (by omega)
      have e26 : ar σ1 26 k (ixo (Z k)) = nI (C k (ixo (Z k))) := by rw [h26' k _ (by omega) hz, if_neg (by omega), Nat.add_zero]
      obtain ⟨σ2, e2, r2, g2⟩ := ih (k + 1) (by omega) (se σ1 26 k (ixo (Z k)) (nI (C k (ixo (Z k)) + 1))) (fun k' hk' => by rw [se_def, ar_sw_t (by decide)]; exact h24 k' hk') (fun k' x hk' hx => by
        rw [se_def]
        by_cases e : k' = k
        · subst e
          rw [ar_sw_s, upd_if]
          by_cases e3 : x = ixo (Z k')
          · rw [if_pos e3, if_pos ⟨by omega, e3.symm⟩, e3]
          · rw [if_neg e3, if_neg (fun z => e3 z.2.symm), h26' k' x hk' hx, if_neg (by omega)]
        · rw [ar_sw_q e, h26' k' x hk' hx]
          by_cases e4 : k' < k
          · simp only [e4, Nat.lt_succ_of_lt e4]
          · rw [if_neg (by omega), if_neg (by omega)])
      refine ⟨σ2, ?_, r2, (Ag.sw (S := fun t _ => t = 26) rfl).tr g2⟩
      rw [s2_30, show (6 : Int32) = nI 6 from rfl, if_pos (ltn (show k < 6 by omega) (by omega))]
      simp only [s2_36, s2_42, s2_48, s2_50, s2_54, s2_57, oob_nI (show k < 6 by omega) (by decide), cl6 (show k < 6 by omega), oob_nI ha (by decide), cl6 ha, e24, ixo_en, oob_nI hz (by decide), clN (show ixo (Z k) ≤ 100000 by omega), e26, add1N, Option.bind_some, Option.toList_some, Option.toList_none, List.cons_append, List.nil_append, true_or, or_true, if_true, if_false, i10, i01, Bool.false_eq_true]
      exact e2
  have e1 : (en o4 = -1) = (o4 = none) := en_m1 (fun b hb => by have := ho b hb; omega)
  cases o4 with
  | none =>
    obtain ⟨σ2, e2, r2, g2⟩ := key 6 0 (by omega) (se (se (se σ 0 0 3 (nI (c3 + 1))) 0 0 4 (nI v)) 0 0 5 (nI v)) (fun k hk => by simp only [ar_sw_t, ar_sw_s, se_def, sw_sw, ne_eq, not_false_eq_true, Nat.reduceEqDiff]) (fun k' x hk' hx => by simp only [ar_sw_t, ar_sw_s, se_def, sw_sw, ne_eq, not_false_eq_true, Nat.reduceEqDiff]; rw [h26 k' x hk' hx, if_neg (by omega), Nat.add_zero])
    refine ⟨σ2, ?_, ?_, ?_, ?_, r2, (((Ag.sw (Or.inl ⟨rfl, rfl⟩)).tr (Ag.sw (Or.inl ⟨rfl, rfl⟩))).tr (Ag.sw (Or.inl ⟨rfl, rfl⟩))).tr (g2.mono (fun t q h => Or.inr h))⟩
    · have q4 : ar (se σ 0 0 3 (nI c3 + 1)) 0 0 4 = -1 := by simp only [ar_sw_t, ar_sw_s, se_def, sw_sw, ne_eq, not_false_eq_true, Nat.reduceEqDiff, upd_n]; exact h4
      rw [s2_e, s2_0, h3, q4, if_pos rfl, s2_18, s2_23, add1N]
      exact e2
    · rw [g2.1 _ _ (by decide)]; simp only [ar_sw_t, ar_sw_s, se_def, sw_sw, ne_eq, not_false_eq_true, Nat.reduceEqDiff, upd_n, upd_s]
    · rw [g2.1 _ _ (by decide)]; simp only [ar_sw_t, ar_sw_s, se_def, sw_sw, ne_eq, not_false_eq_true, Nat.reduceEqDiff, upd_n, upd_s]; rfl
    · rw [g2.1 _ _ (by decide)]; simp only [ar_sw_t, ar_sw_s, se_def, sw_sw, ne_eq, not_false_eq_true, Nat.reduceEqDiff, upd_s]
  | some y =>
    have hy := ho y rfl
    obtain ⟨σ2, e2, r2, g2⟩ := key 6 0 (by omega) (se (se σ 0 0 3 (nI (c3 + 1))) 0 0 5 (nI v)) (fun k hk => by simp only [ar_sw_t, ar_sw_s, se_def, sw_sw, ne_eq, not_false_eq_true, Nat.reduceEqDiff]) (fun k' x hk' hx => by simp only [ar_sw_t, ar_sw_s, se_def, sw_sw, ne_eq, not_false_eq_true, Nat.reduceEqDiff]; rw [h26 k' x hk' hx, if_neg (by omega), Nat.add_zero])
    refine ⟨σ2, ?_, ?_, ?_, ?_, r2, ((Ag.sw (Or.inl ⟨rfl, rfl⟩)).tr (Ag.sw (Or.inl ⟨rfl, rfl⟩))).tr (g2.mono (fun t q h => Or.inr h))⟩
    · have q4 : ar (se σ 0 0 3 (nI c3 + 1)) 0 0 4 = nI y := by simp only [ar_sw_t, ar_sw_s, se_def, sw_sw, ne_eq, not_false_eq_true, Nat.reduceEqDiff, upd_n]; exact h4
      rw [s2_e, s2_0, h3, q4, if_neg (by rw [n1N (by omega)]; exact id), s2_23, add1N]
      exact e2
    · rw [g2.1 _ _ (by decide)]; simp only [ar_sw_t, ar_sw_s, se_def, sw_sw, ne_eq, not_false_eq_true, Nat.reduceEqDiff, upd_n, upd_s]
    · rw [g2.1 _ _ (by decide)]; simp only [ar_sw_t, ar_sw_s, se_def, sw_sw, ne_eq, not_false_eq_true, Nat.reduceEqDiff, upd_n, upd_s]; exact h4
    · rw [g2.1 _ _ (by decide)]; simp only [ar_sw_t, ar_sw_s, se_def, sw_sw, ne_eq, not_false_eq_true, Nat.reduceEqDiff, upd_s]
/-- the angers with one of them another -/
noncomputable def gA (A : Nat → Int32) (a b v : Nat) : Nat → Int32 := upd A (6 * a + b) (nI v)
noncomputable def gR (n : Nat) (K W A : Nat → Int32) (a b v k x : Nat) : Option Nat := pick n K W (morN n K W k (gA A a b v)) x
noncomputable def gOk (n : Nat) (K W A : Nat → Int32) (a b : Nat) (g : Sg) (v : Nat) : Bool := allb (fun i => decide (gR n K W A a b v (gm g i) (gh g i) = gf g i)) (gl g)
noncomputable def gC (n : Nat) (K W A : Nat → Int32) (a b : Nat) (g : Sg) (v k x : Nat) : Nat := cn (fun v' => gOk n K W A a b g v' && decide (ixo (gR n K W A a b v' k a) = x)) v
/-- what is found behind so many angers -/
def GvAt (σ : St) (n : Nat) (K W A : Nat → Int32) (a b : Nat) (g : Sg) (v : Nat) : Prop := ar σ 0 0 3 = nI (cn (gOk n K W A a b g) v) ∧ ar σ 0 0 4 = en (lst (gOk n K W A a b g) v) ∧ ar σ 0 0 5 = en (gst (gOk n K W A a b g) v) ∧ ∀ k x, k < 6 → x < 7 → ar σ 26 k x = nI (gC n K W A a b g v k x)
theorem bd_small : ∀ v, v ≤ 20 → bd (nI v) = nI v := by decide +kernel
def sgW (n : Nat) (g : Sg) : Prop := ∀ i, i < gl g → gh g i < n ∧ (∀ b, gf g i = some b → b < n) ∧ gm g i < 6
theorem c_find {a b : Nat} {g : Sg} (h6 : n ≤ 6) (ha : a < n) (hb : b < n) (hg : sgW n g) (hs : SgAt σ 0 g) (h : Lv σ 0 n K W A) (hw : Wf σ) : ∃ σ', call (d + 4) 0 [vR 0 0, vR 5 0, vR 4 0, vI (nI a), vI (nI b)] σ = some (none, σ') ∧ GvAt σ' n K W A a b g 21 ∧ Ag Scr σ σ' := by
  have nS : ∀ t q, (t = 4 ∨ (18 ≤ t ∧ t ≤ 20)) → ¬ Scr t q := fun t q h z => by unfold Scr at z; omega
  have key : ∀ f v, v + f = 21 → ∀ σ : St, Lv σ 0 n K W A → SgAt σ 0 g → GvAt σ n K W A a b g v → ∃ σ', exec (d + 4) 0 45 [vR 0 0, vR 5 0, vR 4 0, vI (nI a), vI (nI b), vI (nI v)] [] σ = some (none, σ') ∧ GvAt σ' n K W A a b g 21 ∧ Ag Scr σ σ' := by
    intro f
    induction f with
    | zero =>
      intro v hv σ _ _ hG
      have e : v = 21 := by omega
      subst e
      exact ⟨σ, by rw [s0_45, show (20 : Int32) = nI 20 from rfl, if_pos (ltn (by omega) (by omega)), s0_100], hG, Ag.rf⟩
    | succ f ih =>
      intro v hv σ h hs hG
      have e20 : ¬ (20 : Int32) < nI v := by rw [show (20 : Int32) = nI 20 from rfl, ltN (by omega) (by omega)]; omega
      obtain ⟨σ1, e1, L1, g1⟩ := c_copyLv (d := d + 3) (σ := σ) (q := 7) (q' := 0) (by decide) h
      obtain ⟨σ2, e2, L2, g2⟩ := c_setAnger (d := d + 2) (x := nI v) h6 ha hb L1
      rw [bd_small v (by omega)] at L2
      obtain ⟨σ3, e3, r3, g3⟩ := c_foresee (d := d) h6 L2
      have gF : Ag Fo σ σ3 := ((g1.mono (fun t q h => Or.inr h)).tr (g2.SA_SB.mono (fun t q h => Or.inr h))).tr g3
      have gS : Ag Scr σ σ3 := gF.mono (fun t q h => by unfold Fo SB at h; unfold Scr; omega)
      have s3 : SgAt σ3 0 g := hs.ag gS (nS _ _ (by omega)) (nS _ _ (by omega)) (nS _ _ (by omega)) (nS _ _ (by omega))
      have hso := c_isSo (d := d + 3) (R := gR n K W A a b v) h6 s3 hg (fun k x hk hx => r3 k x hk hx) (fun k x c hc => pick_lt hc)
      have hso' : call (d + 3) 47 [vR 4 0, vR 23 0] σ3 = some (some (vI (if gOk n K W A a b g v = true then 1 else 0)), σ3) := hso
      have n0 : ¬ Fo 0 0 := by unfold Fo SB; omega
      have n26 : ∀ q, ¬ Fo 26 q := fun q => by unfold Fo SB; omega
      have G3 : GvAt σ3 n K W A a b g v := by
        unfold GvAt
        rw [gF.1 _ _ n0]
        exact ⟨hG.1, hG.2.1, hG.2.2.1, fun k x hk hx => by rw [gF.1 _ _ (n26 k)]; exact hG.2.2.2 k x hk hx⟩
      cases c : gOk n K W A a b g v with
      | false =>
        rw [c] at hso'
        have G4 : GvAt σ3 n K W A a b g (v + 1) := by
          refine ⟨?_, ?_, ?_, fun k x hk hx => ?_⟩
          · rw [cn, if_neg (by rw [c]; exact Bool.false_ne_true)]; exact G3.1
          · rw [lst]
            rw [c]
            cases hl : lst (gOk n K W A a b g) v with
            | none => have := G3.2.1; rw [hl] at this; exact this
            | some y => have := G3.2.1; rw [hl] at this; exact this
          · rw [gst, if_neg (by rw [c]; exact Bool.false_ne_true)]; exact G3.2.2.1
          · unfold gC
            rw [cn, if_neg (by rw [c]; exact Bool.false_ne_true)]
            exact G3.2.2.2 k x hk hx
        obtain ⟨σ5, e5, G5, g5⟩ := ih (v + 1) (by omega) σ3 (h.ag gS Scr_0) s3 G4
        refine ⟨σ5, ?_, G5, gS.tr g5⟩
        rw [s0_45]
        simp only [e20, s0_52, s0_60, s0_72, s0_76, s0_84, s0_94, e1, e2, e3, hso', Option.bind_some, Option.toList_some, Option.toList_none, List.cons_append, List.nil_append, true_or, or_true, if_true, if_false, i10, i01, Bool.false_eq_true, add1N]
        exact e5
      | true =>
        rw [c] at hso'
        obtain ⟨σ4, e4, k3, k4, k5, k26, g4⟩ := c_take (d := d + 3) (a := a) (v := v) (Z := fun k => gR n K W A a b v k a) (by omega) (fun x hx => by have := lst_lt hx; omega) (fun k b' hb' => by have := pick_lt hb'; omega) (fun k hk => r3 k a hk ha) G3.1 G3.2.1 G3.2.2.2
        have G4 : GvAt σ4 n K W A a b g (v + 1) := by
          refine ⟨?_, ?_, ?_, fun k x hk hx => ?_⟩
          · rw [cn, if_pos c]; exact k3
          · rw [k4, lst, c]; rfl
          · rw [gst, if_pos c]; exact k5
          · rw [k26 k x hk hx]
            unfold gC
            rw [cn, c, Bool.true_and]
            by_cases e : ixo (gR n K W A a b v k a) = x
            · rw [if_pos e, if_pos (decide_eq_true e)]
            · rw [if_neg e, if_neg (by rw [decide_eq_true_eq]; exact e)]; rfl
        have gS4 : Ag Scr σ σ4 := gS.tr (g4.mono (fun t q h => by unfold Scr; omega))
        have s4 : SgAt σ4 0 g := hs.ag gS4 (nS _ _ (by omega)) (nS _ _ (by omega)) (nS _ _ (by omega)) (nS _ _ (by omega))
        obtain ⟨σ5, e5, G5, g5⟩ := ih (v + 1) (by omega) σ4 (h.ag gS4 Scr_0) s4 G4
        refine ⟨σ5, ?_, G5, gS4.tr g5⟩
        rw [s0_45]
        simp only [e20, s0_52, s0_60, s0_72, s0_76, s0_84, s0_87, s0_94, e1, e2, e3, hso', e4, Option.bind_some, Option.toList_some, Option.toList_none, List.cons_append, List.nil_append, true_or, or_true, if_true, if_false, i10, i01, Bool.false_eq_true, add1N]
        exact e5
  have fl : ∀ f k, k + f = 6 → ∀ σ : St, Wf σ → (∀ k' x, k' < k → ar σ 26 k' x = 0) → ∃ σ', exec (d + 4) 0 18 [vR 0 0, vR 5 0, vR 4 0, vI (nI a), vI (nI b), vI (nI k)] [] σ = exec (d + 4) 0 45 [vR 0 0, vR 5 0, vR 4 0, vI (nI a), vI (nI b), vI (nI 0)] [] σ' ∧ (∀ k' x, k' < 6 → ar σ' 26 k' x = 0) ∧ Ag (fun t q => t = 26) σ σ' := by
    intro f
    induction f with
    | zero =>
      intro k hk σ hw h0
      have e : k = 6 := by omega
      subst e
      refine ⟨σ, ?_, h0, Ag.rf⟩
      rw [s0_18, show (6 : Int32) = nI 6 from rfl, if_neg nlt, s0_42]
      rfl
    | succ f ih =>
      intro k hk σ hw h0
      have hf := c_fill0 (d := d + 3) (σ := σ) (q := k) (t := 26) hw (by decide) (by decide) (by decide) (by decide)
      obtain ⟨σ2, e2, r2, g2⟩ := ih (k + 1) (by omega) (sw σ 26 k (fun _ => 0)) (hw.sw (fun _ _ => rfl)) (fun k' x hk' => by
        by_cases e : k' = k
        · rw [e, ar_sw_s]
        · rw [ar_sw_q e]; exact h0 k' x (by omega))
      refine ⟨σ2, ?_, r2, (Ag.sw (S := fun t _ => t = 26) rfl).tr g2⟩
      rw [s0_18, show (6 : Int32) = nI 6 from rfl, if_pos (ltn (show k < 6 by omega) (by omega))]
      simp only [s0_25, s0_32, s0_36, hf, oob_nI (show k < 6 by omega) (by decide), cl6 (show k < 6 by omega), Option.bind_some, Option.toList_some, Option.toList_none, List.cons_append, List.nil_append, true_or, or_true, if_true, if_false, i10, i01, Bool.false_eq_true, add1N]
      exact e2
  have w0 : Wf (se (se (se σ 0 0 3 0) 0 0 4 (-1)) 0 0 5 (-1)) := ((hw.se (Or.inl (by decide))).se (Or.inl (by decide))).se (Or.inl (by decide))
  obtain ⟨σ1, e1, r1, g1⟩ := fl 6 0 (by omega) _ w0 (fun k' x hk' => by omega)
  have gS : Ag Scr σ σ1 := (((Ag.sw (by unfold Scr; omega)).tr (Ag.sw (by unfold Scr; omega))).tr (Ag.sw (by unfold Scr; omega))).tr (g1.mono (fun t q h => by unfold Scr; omega))
  have G0 : GvAt σ1 n K W A a b g 0 := by
    unfold GvAt
    rw [g1.1 _ _ (by decide)]
    refine ⟨?_, ?_, ?_, fun k x hk hx => r1 k x hk⟩
    · simp only [ar_sw_t, ar_sw_s, se_def, sw_sw, ne_eq, not_false_eq_true, Nat.reduceEqDiff, upd_n, upd_s]; rfl
    · simp only [ar_sw_t, ar_sw_s, se_def, sw_sw, ne_eq, not_false_eq_true, Nat.reduceEqDiff, upd_n, upd_s]; rfl
    · simp only [ar_sw_t, ar_sw_s, se_def, sw_sw, ne_eq, not_false_eq_true, Nat.reduceEqDiff, upd_s]; rfl
  obtain ⟨σ2, e2, G2, g2⟩ := key 21 0 (by omega) σ1 (h.ag gS Scr_0) (hs.ag gS (nS _ _ (by omega)) (nS _ _ (by omega)) (nS _ _ (by omega)) (nS _ _ (by omega))) G0
  refine ⟨σ2, ?_, G2, gS.tr g2⟩
  rw [s0_e, s0_0]
  exact e1.trans e2
theorem c_worstOf {q : Nat} {f : Nat → Nat} (hf : ∀ x, x < 7 → ar σ 26 q x = nI (f x) ∧ f x ≤ 1000) : call d 5 [vR 26 q] σ = some (some (vI (nI (mxw f 7))), σ) := by
  rw [s5_e, s5_0 (by decide) (by decide)]
  have key : ∀ m b, b + m = 7 → ∀ v5 : IV, exec d 5 10 [vR 26 q, vI (nI (mxw f b)), vR 26 q, vI (nI 7), vI (nI b), v5] [] σ = some (some (vI (nI (mxw f 7))), σ) := by
    intro m
    induction m with
    | zero =>
      intro b hb v5
      have e : b = 7 := by omega
      subst e
      rw [s5_10, if_neg nlt, s5_35]
    | succ m ih =>
      intro b hb v5
      have ih' := ih (b + 1) (by omega) (vI (nI (f b)))
      obtain ⟨h1, h2⟩ := hf b (by omega)
      have hm : mxw f b ≤ 1000 := mxw_le (fun x hx => (hf x (by omega)).2)
      have e1 : (nI (mxw f b) < nI (f b)) = (mxw f b < f b) := ltN (by omega) (by omega)
      have e2 : (if nI (mxw f b) < nI (f b) then nI (f b) else nI (mxw f b)) = nI (mxw f (b + 1)) := by
        rw [mxw]
        by_cases c : mxw f b < f b
        · rw [if_pos (by rw [e1]; exact c), if_pos c]
        · rw [if_neg (by rw [e1]; exact c), if_neg c]
      have i7 : oob (nI b) (lenT 26) = false := oob_nI (show b < 7 by omega) (by decide)
      rw [s5_10, if_pos (ltn (show b < 7 by omega) (by omega))]
      simp only [s5_16 (show (26 : Nat) < 60 by decide), s5_20, i7, clN (show b ≤ 100000 by omega), h1, e2, add1N, Option.bind_some, Option.toList_some, Option.toList_none, List.cons_append, List.nil_append, true_or, or_true, if_true, if_false, i10, i01, Bool.false_eq_true]
      exact ih'
  exact key 7 0 (by omega) vN
noncomputable def gB (n : Nat) (K W A : Nat → Int32) (a b : Nat) (g : Sg) : Option Nat := if cn (gOk n K W A a b g) 21 = 0 then none else (blk (fun k => mxw (gC n K W A a b g 21 k) 7) 6).1
theorem c_bestLook {a b : Nat} {g : Sg} (h : GvAt σ n K W A a b g 21) : call (d + 1) 4 [vR 0 0] σ = some (some (vI (en (gB n K W A a b g))), σ) := by
  have hC : ∀ k x, gC n K W A a b g 21 k x ≤ 21 := fun k x => cn_le 21
  have hw : ∀ k, k < 6 → call d 5 [vR 26 k] σ = some (some (vI (nI (mxw (gC n K W A a b g 21 k) 7))), σ) := fun k hk => c_worstOf (fun x hx => ⟨h.2.2.2 k x hk hx, by have := hC k x; omega⟩)
  have hwb : ∀ k, mxw (gC n K W A a b g 21 k) 7 ≤ 21 := fun k => mxw_le (fun x _ => hC k x)
  have hcn := cn_le (p := gOk n K W A a b g) 21
  have e0 : ((0 : Int32) < nI (cn (gOk n K W A a b g) 21)) = (0 < cn (gOk n K W A a b g) 21) := by rw [show (0 : Int32) = nI 0 from rfl, ltN (by omega) (by omega)]
  rw [s4_e, s4_0]
  unfold gB
  by_cases c : cn (gOk n K W A a b g) 21 = 0
  · rw [if_pos c]
    simp only [s4_7, s4_13, s4_48, h.1, e0.trans (eq_false (by omega)), show ((0 : Int32) < 6) = True by decide, Option.bind_some, Option.toList_some, Option.toList_none, List.cons_append, List.nil_append, true_or, or_true, if_true, if_false, i10, i01, Bool.false_eq_true]
    rfl
  · rw [if_neg c]
    have key : ∀ f k, k + f = 6 → ∀ v4 : IV, exec (d + 1) 4 7 [vR 0 0, vI (en (blk (fun k => mxw (gC n K W A a b g 21 k) 7) k).1), vI (nI (blk (fun k => mxw (gC n K W A a b g 21 k) 7) k).2), vI (nI k), v4] [] σ = some (some (vI (en (blk (fun k => mxw (gC n K W A a b g 21 k) 7) 6).1)), σ) := by
      intro f
      induction f with
      | zero =>
        intro k hk v4
        have e : k = 6 := by omega
        subst e
        rw [s4_7, show (6 : Int32) = nI 6 from rfl, if_neg nlt, s4_48]
      | succ f ih =>
        intro k hk v4
        have hb := blk_le (w := fun k => mxw (gC n K W A a b g 21 k) 7) k (fun x _ => hwb x)
        have hwk := hwb k
        have ih' := ih (k + 1) (by omega) (vI (nI (mxw (gC n K W A a b g 21 k) 7)))
        have e1 : (nI (mxw (gC n K W A a b g 21 k) 7) < nI (blk (fun k => mxw (gC n K W A a b g 21 k) 7) k).2) = (mxw (gC n K W A a b g 21 k) 7 < (blk (fun k => mxw (gC n K W A a b g 21 k) 7) k).2) := ltN (by omega) (by omega)
        rw [s4_7, show (6 : Int32) = nI 6 from rfl, if_pos (ltn (show k < 6 by omega) (by omega))]
        by_cases c1 : mxw (gC n K W A a b g 21 k) 7 < (blk (fun k => mxw (gC n K W A a b g 21 k) 7) k).2
        · have e2 : blk (fun k => mxw (gC n K W A a b g 21 k) 7) (k + 1) = (some k, mxw (gC n K W A a b g 21 k) 7) := by rw [blk, if_pos c1]
          rw [e2] at ih'
          simp only [s4_13, s4_20, s4_26, s4_29, s4_37, s4_42, h.1, e0.trans (eq_true (show 0 < cn (gOk n K W A a b g) 21 by omega)), oob_nI (show k < 6 by omega) (by decide), cl6 (show k < 6 by omega), hw k (by omega), e1.trans (eq_true c1), Option.bind_some, Option.toList_some, Option.toList_none, List.cons_append, List.nil_append, true_or, or_true, if_true, if_false, i10, i01, Bool.false_eq_true, add1N]
          exact ih'
        · have e2 : blk (fun k => mxw (gC n K W A a b g 21 k) 7) (k + 1) = blk (fun k => mxw (gC n K W A a b g 21 k) 7) k := by rw [blk, if_neg c1]
          rw [e2] at ih'
          simp only [s4_13, s4_20, s4_26, s4_29, s4_42, h.1, e0.trans (eq_true (show 0 < cn (gOk n K W A a b g) 21 by omega)), oob_nI (show k < 6 by omega) (by decide), cl6 (show k < 6 by omega), hw k (by omega), e1.trans (eq_false c1), Option.bind_some, Option.toList_some, Option.toList_none, List.cons_append, List.nil_append, true_or, or_true, if_true, if_false, i10, i01, Bool.false_eq_true, add1N]
          exact ih'
    exact key 6 0 (by omega) vN
noncomputable def gAn (n : Nat) (K W A : Nat → Int32) (a b : Nat) (g : Sg) (x : Nat) : Int32 := if x = 0 then nI (cn (gOk n K W A a b g) 21) else if x = 1 then en (lst (gOk n K W A a b g) 21) else if x = 2 then en (gst (gOk n K W A a b g) 21) else en (gB n K W A a b g)
theorem toI2 {x : Nat} (hx : x ≤ 1000) : ((nI x).toInt = 2) = (x = 2) := (tI (show (nI 2).toInt = 2 from rfl)).trans (eqN (by omega) (by omega))
theorem c_guessFound {a b x : Nat} {g : Sg} (hx : x ≤ 1000) (h : GvAt σ n K W A a b g 21) : call (d + 2) 3 [vR 0 0, vI (nI x)] σ = some (some (vI (gAn n K W A a b g x)), σ) := by
  unfold gAn
  have t0 := toI0 (show x ≤ 1000 by omega)
  have t1 := toI1 (show x ≤ 1000 by omega)
  have t2 := toI2 (show x ≤ 1000 by omega)
  by_cases c0 : x = 0
  · rw [if_pos c0]
    simp only [s3_e, s3_0, s3_28, s3_33, s3_38, s3_43, s3_47, t0.trans (eq_true c0), h.1, Option.bind_some, Option.toList_some, Option.toList_none, List.cons_append, List.nil_append, true_or, or_true, if_true, if_false, i10, i01, Bool.false_eq_true]
  · rw [if_neg c0]
    by_cases c1 : x = 1
    · rw [if_pos c1]
      simp only [s3_e, s3_0, s3_28, s3_33, s3_38, s3_43, s3_47, t0.trans (eq_false c0), t1.trans (eq_true c1), h.2.1, Option.bind_some, Option.toList_some, Option.toList_none, List.cons_append, List.nil_append, true_or, or_true, if_true, if_false, i10, i01, Bool.false_eq_true]
    · rw [if_neg c1]
      by_cases c2 : x = 2
      · rw [if_pos c2]
        simp only [s3_e, s3_0, s3_28, s3_33, s3_38, s3_43, s3_47, t0.trans (eq_false c0), t1.trans (eq_false c1), t2.trans (eq_true c2), h.2.2.1, Option.bind_some, Option.toList_some, Option.toList_none, List.cons_append, List.nil_append, true_or, or_true, if_true, if_false, i10, i01, Bool.false_eq_true]
      · rw [if_neg c2]
        simp only [s3_e, s3_0, s3_28, s3_33, s3_38, s3_43, s3_47, t0.trans (eq_false c0), t1.trans (eq_false c1), t2.trans (eq_false c2), c_bestLook h, Option.bind_some, Option.toList_some, Option.toList_none, List.cons_append, List.nil_append, true_or, or_true, if_true, if_false, i10, i01, Bool.false_eq_true]
end GU

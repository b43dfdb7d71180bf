/-! Rows of peaces: the one search and the other. -/
noncomputable def dfs (ok : (Nat → Int32) → Nat → Prop) (Cf : (Nat → Int32) → Bool) : List Nat → Nat → (Nat → Int32) → Option (List Nat)
  | [], r, A => if r = 0 ∧ Cf A = true then some [] else none
  | p :: L, r, A => if r = 0 then (if Cf A = true then some [] else none) else match @ite _ (ok A p) (Classical.propDecidable _) (dfs ok Cf L (r - 1) (pcA p A)) none with
    | some l => some (p :: l)
    | none => dfs ok Cf L r A
def apl (A : Nat → Int32) (l : List Nat) : Nat → Int32 := l.foldl (fun A p => pcA p A) A
def okM : (Nat → Int32) → Nat → Prop := fun _ _ => True
section CA
variable {n : Nat} {K W A : Nat → Int32} {Cf : (Nat → Int32) → Bool} {ok : (Nat → Int32) → Nat → Prop}
theorem dfs_0 {L : List Nat} : dfs ok Cf L 0 A = if Cf A = true then some [] else none := by
  cases L with
  | nil => simp only [dfs, true_and]
  | cons p L => simp only [dfs, if_true]
theorem dfs_cons {p : Nat} {L : List Nat} {r : Nat} : dfs ok Cf (p :: L) (r + 1) A = match @ite _ (ok A p) (Classical.propDecidable _) (dfs ok Cf L r (pcA p A)) none with
    | some l => some (p :: l)
    | none => dfs ok Cf L (r + 1) A := by
  rw [dfs, if_neg (by omega), Nat.add_sub_cancel]
theorem csr_dfs {m B : Nat} : ∀ r fr (A : Nat → Int32), fr ≤ 15 → csr n K W m B r fr A = dfs (hasA n) (Cm n K W m B) (List.range' fr (15 - fr)) r A := by
  intro r
  induction r with
  | zero => intro fr A h; rw [dfs_0, csr]
  | succ r ih =>
    intro fr A h
    rw [csr]
    have : ∀ f p, p + f = 15 → crl (fun p => @ite _ (hasA n A p) (Classical.propDecidable _) (csr n K W m B r (p + 1) (pcA p A)) none) f p = dfs (hasA n) (Cm n K W m B) (List.range' p f) (r + 1) A := by
      intro f
      induction f with
      | zero => intro p hp; simp only [crl, List.range'_zero, dfs]; rw [if_neg (by omega)]
      | succ f ihf =>
        intro p hp
        rw [crl, List.range'_succ, dfs_cons, ihf (p + 1) (by omega), ih (p + 1) (pcA p A) (by omega), show 15 - (p + 1) = f by omega]
        cases hz : @ite _ (hasA n A p) (Classical.propDecidable _) (dfs (hasA n) (Cm n K W m B) (List.range' (p + 1) f) r (pcA p A)) none <;> rfl
    exact this (15 - fr) fr (by omega)
theorem dfs_filter {q : Nat → Bool} (hq : ∀ A p, ok A p → q p = true) : ∀ (L : List Nat) (r : Nat) (A : Nat → Int32), dfs ok Cf L r A = dfs ok Cf (L.filter q) r A
  | [], r, A => rfl
  | p :: L, 0, A => by rw [dfs_0, dfs_0]
  | p :: L, r + 1, A => by
    rw [List.filter_cons, dfs_cons]
    cases hp : q p with
    | true =>
      rw [if_pos rfl, dfs_cons, dfs_filter hq L r, dfs_filter hq L (r + 1)]
    | false =>
      rw [if_neg Bool.false_ne_true, if_neg (fun z => by rw [hq A p z] at hp; cases hp)]
      exact dfs_filter hq L (r + 1) A
theorem dfs_none : ∀ (L : List Nat) (r : Nat) (A : Nat → Int32), dfs okM Cf L r A = none → ∀ l, l.Sublist L → l.length = r → Cf (apl A l) = false
  | [], r, A, h, l, hl, hr => by
    have : l = [] := List.sublist_nil.mp hl
    subst this
    have : r = 0 := hr.symm
    subst this
    rw [dfs_0] at h
    cases hc : Cf A with
    | true => rw [hc] at h; cases h
    | false => exact hc
  | p :: L, 0, A, h, l, hl, hr => by
    have : l = [] := List.eq_nil_of_length_eq_zero hr
    subst this
    rw [dfs_0] at h
    cases hc : Cf A with
    | true => rw [hc] at h; cases h
    | false => exact hc
  | p :: L, r + 1, A, h, l, hl, hr => by
    rw [dfs_cons, if_pos (show okM A p from trivial)] at h
    cases h1 : dfs okM Cf L r (pcA p A) with
    | some x => rw [h1] at h; cases h
    | none =>
      rw [h1] at h
      cases hl with
      | cons _ hl' => exact dfs_none L (r + 1) A h l hl' hr
      | cons_cons _ hl' =>
        rename_i l'
        exact dfs_none L r (pcA p A) h1 l' hl' (by simpa using hr)
theorem dfs_mem : ∀ (L : List Nat) (r : Nat) (A : Nat → Int32) (l : List Nat), dfs ok Cf L r A = some l → l.Sublist L ∧ l.length = r ∧ Cf (apl A l) = true
  | [], r, A, l, h => by
    rw [dfs] at h
    split at h
    · rename_i hc
      cases h
      exact ⟨List.Sublist.refl _, hc.1.symm, hc.2⟩
    · cases h
  | p :: L, 0, A, l, h => by
    rw [dfs_0] at h
    split at h
    · rename_i hc
      cases h
      exact ⟨List.nil_sublist _, rfl, hc⟩
    · cases h
  | p :: L, r + 1, A, l, h => by
    rw [dfs_cons] at h
    cases h1 : @ite _ (ok A p) (Classical.propDecidable _) (dfs ok Cf L r (pcA p A)) none with
    | some x =>
      rw [h1] at h
      cases h
      by_cases hok : ok A p
      · rw [if_pos hok] at h1
        obtain ⟨a1, a2, a3⟩ := dfs_mem L r (pcA p A) x h1
        exact ⟨a1.cons_cons p, by rw [List.length_cons, a2], a3⟩
      · rw [if_neg hok] at h1; cases h1
    | none =>
      rw [h1] at h
      obtain ⟨a1, a2, a3⟩ := dfs_mem L (r + 1) A l h
      exact ⟨a1.cons p, a2, a3⟩
/-- angers are small numbers -/
def R20 (A : Nat → Int32) : Prop := ∀ j, j < 36 → ∃ v, v ≤ 20 ∧ A j = nI v
theorem R20.pc {p : Nat} (h : R20 A) : R20 (pcA p A) := fun j hj => by
  unfold pcA
  rw [upd_if, upd_if]
  split
  · exact ⟨0, by omega, rfl⟩
  · split
    · exact ⟨0, by omega, rfl⟩
    · exact h j hj
theorem hasA_not {p : Nat} (h : R20 A) (hp : p < 15) (hn : hip p < n) (hh : ¬ hasA n A p) : pcA p A = A := by
  obtain ⟨hl, hh6⟩ := lop6 p hp
  have h0 : A (6 * lop p + hip p) + A (6 * hip p + lop p) = 0 := Classical.byContradiction fun z => hh ⟨hn, z⟩
  obtain ⟨v, hv, ev⟩ := h (6 * lop p + hip p) (by omega)
  obtain ⟨w, hw, ew⟩ := h (6 * hip p + lop p) (by omega)
  rw [ev, ew, addN, show (0 : Int32) = nI 0 from rfl, eqN (by omega) (by omega)] at h0
  have ev0 : A (6 * lop p + hip p) = 0 := by rw [ev, show v = 0 by omega]; rfl
  have ew0 : A (6 * hip p + lop p) = 0 := by rw [ew, show w = 0 by omega]; rfl
  unfold pcA
  funext j
  rw [upd_if, upd_if]
  split
  · rename_i e; rw [e, ew0]
  · split
    · rename_i e; rw [e, ev0]
    · rfl
/-- peaces between those who are not angry can be left out, once fewer do not calm -/
theorem dfs_eq : ∀ (L : List Nat), (∀ p ∈ L, p < 15 ∧ hip p < n) → ∀ (r : Nat) (A : Nat → Int32), R20 A → (∀ l, l.Sublist L → l.length + 1 = r → Cf (apl A l) = false) → dfs (hasA n) Cf L r A = dfs okM Cf L r A
  | [], _, r, A, _, _ => rfl
  | p :: L, hL, 0, A, _, _ => by rw [dfs_0, dfs_0]
  | p :: L, hL, r + 1, A, hR, hyp => by
    have hL' : ∀ p ∈ L, p < 15 ∧ hip p < n := fun q hq => hL q (List.mem_cons_of_mem _ hq)
    obtain ⟨hp, hpn⟩ := hL p List.mem_cons_self
    rw [dfs_cons, dfs_cons, if_pos (show okM A p from trivial), dfs_eq L hL' (r + 1) A hR (fun l hl hr => hyp l (hl.cons p) hr)]
    by_cases c : hasA n A p
    · rw [if_pos c, dfs_eq L hL' r (pcA p A) hR.pc (fun l hl hr => hyp (p :: l) (hl.cons_cons p) (by rw [List.length_cons, hr]))]
    · rw [if_neg c]
      have hno : dfs okM Cf L r (pcA p A) = none := by
        cases hd : dfs okM Cf L r (pcA p A) with
        | none => rfl
        | some l =>
          rw [hasA_not hR hp hpn c] at hd
          obtain ⟨a1, a2, a3⟩ := dfs_mem L r A l hd
          rw [hyp l (a1.cons p) (by omega)] at a3
          cases a3
      rw [hno]
/-- the reference's: the fewest, and the row -/
noncomputable def mlm (n : Nat) (Cf : (Nat → Int32) → Bool) (A : Nat → Int32) : Nat → Nat → Option (Nat × List Nat)
  | 0, _ => none
  | f + 1, r => match dfs okM Cf (PN n) r A with
    | some l => some (r, l)
    | none => mlm n Cf A f (r + 1)
theorem PN_mem {p : Nat} (h : p ∈ PN n) : p < 15 ∧ hip p < n := by
  unfold PN at h
  rw [List.mem_filter, List.mem_range, decide_eq_true_eq] at h
  exact h
theorem clm_mlm {m B : Nat} (hR : R20 A) : ∀ f r, (r = 0 ∨ dfs okM (Cm n K W m B) (PN n) (r - 1) A = none) → clmQ n K W m B A f r = mlm n (Cm n K W m B) A f r
  | 0, _, _ => rfl
  | f + 1, r, h => by
    have e : csr n K W m B r 0 A = dfs okM (Cm n K W m B) (PN n) r A := by
      rw [csr_dfs r 0 A (by omega)]
      have e2 : List.range' 0 (15 - 0) = List.range 15 := by decide
      rw [e2, dfs_filter (q := fun p => decide (hip p < n)) (fun A p hp => decide_eq_true hp.1)]
      refine dfs_eq (PN n) (fun p hp => PN_mem hp) r A hR (fun l hl hr => ?_)
      rcases h with h | h
      · omega
      · exact dfs_none (PN n) (r - 1) A h l hl (by omega)
    rw [clmQ, mlm, e]
    cases hd : dfs okM (Cm n K W m B) (PN n) r A with
    | some l => rfl
    | none => exact clm_mlm hR f (r + 1) (Or.inr (by rw [Nat.add_sub_cancel]; exact hd))
/-! rows by places -/
noncomputable def rs (n : Nat) (Cf : (Nat → Int32) → Bool) : List Nat → (Nat → Int32) → Option (List Nat)
  | [], A => if Cf A = true then some [] else none
  | i :: row, A => match rs n Cf row (pcA (prn n i) A) with
    | some l => some (prn n i :: l)
    | none => dfs okM Cf ((PN n).drop (i + 1)) (row.length + 1) A
def nxt (N : Nat) : List Nat → Option (List Nat)
  | [] => none
  | i :: row => match nxt N row with
    | some row' => some (i :: row')
    | none => if i + 1 + row.length < N then some (List.range' (i + 1) (row.length + 1)) else none
theorem nxt_len {N : Nat} : ∀ {row row' : List Nat}, nxt N row = some row' → row'.length = row.length
  | [], _, h => by cases h
  | i :: row, row', h => by
    rw [nxt] at h
    cases h1 : nxt N row with
    | some x => rw [h1] at h; cases h; rw [List.length_cons, List.length_cons, nxt_len h1]
    | none =>
      rw [h1] at h
      dsimp only at h
      split at h
      · cases h; rw [List.length_range', List.length_cons]
      · cases h
theorem dfs_short : ∀ (L : List Nat) (r : Nat) (A : Nat → Int32), L.length < r → dfs ok Cf L r A = none
  | [], r, A, h => by
    have h' : 0 < r := h
    rw [dfs, if_neg (by omega)]
  | p :: L, 0, A, h => by rw [List.length_cons] at h; omega
  | p :: L, r + 1, A, h => by
    rw [List.length_cons] at h
    rw [dfs_cons, dfs_short L (r + 1) A (by omega), dfs_short L r _ (by omega)]
    split <;> first | rfl | (rename_i hh; split at hh <;> cases hh)
theorem drop_prn {i : Nat} (h6 : n ≤ 6) (hi : i < Pn n) : (PN n).drop i = prn n i :: (PN n).drop (i + 1) := by
  have hlen := PN_len n h6
  rw [List.drop_eq_getElem_cons (by omega)]
  congr 1
  unfold prn
  rw [List.getD_eq_getElem?_getD, List.getElem?_eq_getElem (by omega)]
  rfl
theorem dfs_rs (h6 : n ≤ 6) : ∀ (r i : Nat) (A : Nat → Int32), i + r ≤ Pn n → (0 < r ∨ i ≤ Pn n) → dfs okM Cf ((PN n).drop i) r A = rs n Cf (List.range' i r) A
  | 0, i, A, _, _ => by rw [dfs_0]; rfl
  | r + 1, i, A, h, _ => by
    rw [drop_prn h6 (by omega), dfs_cons, if_pos (show okM A (prn n i) from trivial), List.range'_succ, rs, List.length_range', dfs_rs h6 r (i + 1) (pcA (prn n i) A) (by omega) (by omega)]
theorem rs_nxt (h6 : n ≤ 6) : ∀ (row : List Nat) (A : Nat → Int32), rs n Cf row A = if Cf (apl A (row.map (prn n))) = true then some (row.map (prn n)) else match nxt (Pn n) row with
    | some row' => rs n Cf row' A
    | none => none
  | [], A => rfl
  | i :: row, A => by
    have ih := rs_nxt h6 row (pcA (prn n i) A)
    have hap : apl A ((i :: row).map (prn n)) = apl (pcA (prn n i) A) (row.map (prn n)) := rfl
    rw [rs, ih, hap, nxt]
    by_cases c : Cf (apl (pcA (prn n i) A) (row.map (prn n))) = true
    · rw [if_pos c, if_pos c]; rfl
    · rw [if_neg c, if_neg c]
      cases h1 : nxt (Pn n) row with
      | some row' =>
        dsimp only
        rw [rs, nxt_len h1]
      | none =>
        dsimp only
        by_cases c2 : i + 1 + row.length < Pn n
        · rw [if_pos c2]
          exact dfs_rs h6 (row.length + 1) (i + 1) A (by omega) (by omega)
        · rw [if_neg c2]
          have hlen := PN_len n h6
          exact dfs_short _ _ _ (by rw [List.length_drop]; omega)
/-- how far a row still can go -/
def wtr (N : Nat) : List Nat → Nat
  | [] => 0
  | i :: row => (N - i) * (N + 1) ^ row.length + wtr N row
theorem wtr_lt {N : Nat} : ∀ row : List Nat, wtr N row < (N + 1) ^ row.length
  | [] => by show 0 < 1; omega
  | i :: row => by
    rw [wtr, List.length_cons, Nat.pow_succ]
    have := wtr_lt (N := N) row
    have h2 : (N - i) * (N + 1) ^ row.length ≤ N * (N + 1) ^ row.length := Nat.mul_le_mul_right _ (by omega)
    have h3 : (N + 1) ^ row.length * (N + 1) = N * (N + 1) ^ row.length + (N + 1) ^ row.length := by rw [Nat.mul_comm, Nat.add_mul, Nat.one_mul]
    omega
theorem wtr_nxt {N : Nat} : ∀ {row row' : List Nat}, nxt N row = some row' → wtr N row' < wtr N row
  | [], _, h => by cases h
  | i :: row, row', h => by
    rw [nxt] at h
    cases h1 : nxt N row with
    | some x =>
      rw [h1] at h
      cases h
      rw [wtr, wtr, nxt_len h1]
      have := wtr_nxt h1
      omega
    | none =>
      rw [h1] at h
      dsimp only at h
      split at h
      · rename_i hc
        cases h
        rw [List.range'_succ, wtr, wtr, List.length_range']
        have h2 := wtr_lt (N := N) (List.range' (i + 1 + 1) row.length)
        rw [List.length_range'] at h2
        have h3 : (N - i) * (N + 1) ^ row.length = (N - (i + 1)) * (N + 1) ^ row.length + (N + 1) ^ row.length := by
          rw [show N - i = N - (i + 1) + 1 by omega, Nat.add_mul, Nat.one_mul]
        omega
      · cases h
end CA

/-! Peacemaker: the fewest, and arbiters. -/
noncomputable def clmQ (n : Nat) (K W : Nat → Int32) (m B : Nat) (A : Nat → Int32) : Nat → Nat → Option (Nat × List Nat)
  | 0, _ => none
  | f + 1, r => match csr n K W m B r 0 A with
    | some l => some (r, l)
    | none => clmQ n K W m B A f (r + 1)
/-- what the peacemaker has found: how few (or how many left), and a row -/
def PfAt (σ : St) (x : Int32) (l : List (Option Nat)) : Prop := ar σ 3 0 6 = x ∧ ∀ i, i < 3 → ar σ 22 0 i = en ((l[i]?).getD none)
section PM2
variable {d : Nat} {σ : St} {n : Nat} {K W A : Nat → Int32}
theorem c_fillT {t : Nat} {x : Int32} (ht : t = 21 ∨ t = 22) : call d 224 [vR t 0, vI x] σ = some (none, sw σ t 0 (fun j => if j < 3 then x else ar σ t 0 j)) := by
  rcases ht with rfl | rfl <;> exact c_fill (by decide) (by decide) (by decide)
def clR (o : Option (Nat × List Nat)) : Int32 := match o with
  | none => -1
  | some (r, _) => nI r
def clL (o : Option (Nat × List Nat)) : List (Option Nat) := match o with
  | none => []
  | some (_, l) => l.map some
theorem c_findCalm {m B : Nat} (h6 : n ≤ 6) (hm : m ≤ 1000) (hB : B < 64) (h : Lv σ 0 n K W A) : ∃ σ', call (d + 8) 33 [vR 3 0, vR 5 0, vI (nI B), vI (nI m)] σ = some (none, σ') ∧ PfAt σ' (clR (clmQ n K W m B A 4 0)) (clL (clmQ n K W m B A 4 0)) ∧ (∀ p, some p ∈ clL (clmQ n K W m B A 4 0) → p < 15) ∧ Ag Scr σ σ' := by
  have key : ∀ f r, r + f = 4 → ∀ σ : St, Lv σ 0 n K W A → ar σ 3 0 7 = nI B → ar σ 3 0 8 = nI m → ar σ 3 0 6 = -1 → (∀ i, i < 3 → ar σ 22 0 i = -1) → ∃ σ', exec (d + 8) 33 26 [vR 3 0, vR 5 0, vI (nI B), vI (nI m), vI (nI r)] [] σ = some (none, σ') ∧ PfAt σ' (clR (clmQ n K W m B A f r)) (clL (clmQ n K W m B A f r)) ∧ (∀ p, some p ∈ clL (clmQ n K W m B A f r) → p < 15) ∧ Ag Scr σ σ' := by
    intro f
    induction f with
    | zero =>
      intro r hr σ h h7 h8 hf hb
      have e : r = 4 := by omega
      subst e
      refine ⟨σ, by rw [s33_26, show (3 : Int32) = nI 3 from rfl, if_pos (ltn (by omega) (by omega)), s33_86], ⟨hf, fun i hi => by rw [hb i hi]; rfl⟩, fun p hp => (by cases hp), Ag.rf⟩
    | succ f ih =>
      intro r hr σ h h7 h8 hf hb
      have e3 : ¬ (3 : Int32) < nI r := by rw [show (3 : Int32) = nI 3 from rfl, ltN (by omega) (by omega)]; omega
      have ef := c_fillT (d := d + 7) (σ := σ) (t := 21) (x := -1) (Or.inl rfl)
      obtain ⟨σ1, hσ1⟩ : ∃ x, x = sw σ 21 0 (fun j => if j < 3 then -1 else ar σ 21 0 j) := ⟨_, rfl⟩
      rw [← hσ1] at ef
      have g1 : Ag Scr σ σ1 := by rw [hσ1]; exact Ag.sw (by unfold Scr; omega)
      obtain ⟨σ2, e2, L2, g2⟩ := c_copyLv (d := d + 7) (σ := σ1) (q := 3) (q' := 0) (by decide) (h.ag g1 Scr_0)
      have n3 : ¬ SB 3 3 0 := by unfold SB; omega
      have h7' : ar σ2 3 0 7 = nI B := by rw [g2.1 _ _ n3, hσ1]; simp only [ar_sw_t, ar_sw_s, se_def, sw_sw, ne_eq, not_false_eq_true, Nat.reduceEqDiff]; exact h7
      have h8' : ar σ2 3 0 8 = nI m := by rw [g2.1 _ _ n3, hσ1]; simp only [ar_sw_t, ar_sw_s, se_def, sw_sw, ne_eq, not_false_eq_true, Nat.reduceEqDiff]; exact h8
      obtain ⟨σ3, e4, g3, t3, l3⟩ := c_calms (d := d + 3 - r) h6 hm hB r 0 (by omega) 0 A σ2 (by omega) L2 h7' h8'
      rw [show d + 3 - r + 4 + r = d + 7 by omega, Nat.zero_add] at e4
      have gg : Ag Scr σ σ3 := (g1.tr (g2.SB_Scr (by omega))).tr (CF.scr g3)
      have nn3 : ¬ CF 0 3 0 := by unfold CF; omega
      have nn22 : ¬ CF 0 22 0 := by unfold CF; omega
      have n22 : ¬ SB 3 22 0 := by unfold SB; omega
      have b3 : ar σ3 3 0 = ar σ 3 0 := by rw [g3.1 _ _ nn3, g2.1 _ _ n3, hσ1]; simp only [ar_sw_t, ar_sw_s, se_def, sw_sw, ne_eq, not_false_eq_true, Nat.reduceEqDiff]
      have b22 : ar σ3 22 0 = ar σ 22 0 := by rw [g3.1 _ _ nn22, g2.1 _ _ n22, hσ1]; simp only [ar_sw_t, ar_sw_s, se_def, sw_sw, ne_eq, not_false_eq_true, Nat.reduceEqDiff]
      have t21 : ∀ j, j < 3 → r ≤ j → ar σ3 21 0 j = -1 := fun j hj hrj => by
        rw [t3 j hj (by omega), g2.1 _ _ (by unfold SB; omega), hσ1, ar_sw_s, if_pos hj]
      cases c : csr n K W m B r 0 A with
      | some l =>
        obtain ⟨q1, q2, q3⟩ := l3 l c
        rw [c] at e4
        rw [clmQ, c]
        refine ⟨sw (se σ3 3 0 6 (nI r)) 22 0 (ar σ3 21 0), ?_, ⟨?_, fun i hi => ?_⟩, fun p hp => ?_, (gg.tr (Ag.sw (by unfold Scr; omega))).tr (Ag.sw (by unfold Scr; omega))⟩
        · rw [s33_26, if_neg e3]
          simp only [s33_32, s33_40, s33_48, s33_56, s33_59, s33_79, ef, e2, show (0 : Int32) = nI 0 from rfl, e4, Option.bind_some, Option.toList_some, Option.toList_none, List.cons_append, List.nil_append, true_or, or_true, if_true, if_false, i10, i01, Bool.false_eq_true, Option.isSome_some, show ¬ ((1 : Int32) = nI 0) by decide, ar_sw_t, ar_sw_s, se_def, sw_sw, ne_eq, not_false_eq_true, Nat.reduceEqDiff]
        · simp only [ar_sw_t, ar_sw_s, se_def, sw_sw, ne_eq, not_false_eq_true, Nat.reduceEqDiff, upd_s]; rfl
        · simp only [ar_sw_t, ar_sw_s, se_def, sw_sw, ne_eq, not_false_eq_true, Nat.reduceEqDiff]
          show _ = en (((l.map some)[i]?).getD none)
          by_cases hir : i < r
          · have := q3 i hir
            rw [Nat.zero_add] at this
            rw [this, List.getElem?_map]
            cases l[i]? <;> rfl
          · rw [t21 i hi (by omega), List.getElem?_map, List.getElem?_eq_none (by omega)]
            rfl
        · obtain ⟨x, hx, hxe⟩ := List.mem_map.mp hp
          cases hxe
          exact q2 _ hx
      | none =>
        rw [c] at e4
        rw [clmQ, c]
        obtain ⟨σ5, e5, p5, q5, g5⟩ := ih (r + 1) (by omega) σ3 (h.ag gg Scr_0) (by rw [b3]; exact h7) (by rw [b3]; exact h8) (by rw [b3]; exact hf) (fun i hi => by rw [b22]; exact hb i hi)
        refine ⟨σ5, ?_, p5, q5, gg.tr g5⟩
        rw [s33_26, if_neg e3]
        simp only [s33_32, s33_40, s33_48, s33_56, s33_80, ef, e2, show (0 : Int32) = nI 0 from rfl, e4, Option.bind_some, Option.toList_some, Option.toList_none, List.cons_append, List.nil_append, true_or, or_true, if_true, if_false, i10, i01, Bool.false_eq_true, Option.isSome_none, add1N]
        exact e5
  have ef := c_fillT (d := d + 7) (σ := se (se (se σ 3 0 7 (nI B)) 3 0 8 (nI m)) 3 0 6 (-1)) (t := 22) (x := -1) (Or.inr rfl)
  obtain ⟨σ1, hσ1⟩ : ∃ x, x = sw (se (se (se σ 3 0 7 (nI B)) 3 0 8 (nI m)) 3 0 6 (-1)) 22 0 (fun j => if j < 3 then -1 else ar (se (se (se σ 3 0 7 (nI B)) 3 0 8 (nI m)) 3 0 6 (-1)) 22 0 j) := ⟨_, rfl⟩
  rw [← hσ1] at ef
  have g1 : Ag Scr σ σ1 := by
    rw [hσ1]
    exact (((Ag.sw (by unfold Scr; omega)).tr (Ag.sw (by unfold Scr; omega))).tr (Ag.sw (by unfold Scr; omega))).tr (Ag.sw (by unfold Scr; omega))
  obtain ⟨σ2, e2, p2, q2, g2⟩ := key 4 0 (by omega) σ1 (h.ag g1 Scr_0) (by rw [hσ1]; simp only [ar_sw_t, ar_sw_s, se_def, sw_sw, ne_eq, not_false_eq_true, Nat.reduceEqDiff, upd_n, upd_s]) (by rw [hσ1]; simp only [ar_sw_t, ar_sw_s, se_def, sw_sw, ne_eq, not_false_eq_true, Nat.reduceEqDiff, upd_n, upd_s]) (by rw [hσ1]; simp only [ar_sw_t, ar_sw_s, se_def, sw_sw, ne_eq, not_false_eq_true, Nat.reduceEqDiff, upd_s]) (fun i hi => by rw [hσ1, ar_sw_s, if_pos hi])
  refine ⟨σ2, ?_, p2, q2, g1.tr g2⟩
  simp only [s33_e, s33_0, s33_23, ef, Option.bind_some, Option.toList_some, Option.toList_none, List.cons_append, List.nil_append, true_or, or_true, if_true, if_false, i10, i01, Bool.false_eq_true]
  exact e2
/-- what a peacemaker tells -/
def pfA (x : Int32) (l : List (Option Nat)) (w : Nat) : Int32 := if w = 0 then x else pno ((l[w - 10]?).getD none)
theorem c_pmFound {x : Int32} {l : List (Option Nat)} {w : Nat} (hw : w = 0 ∨ (10 ≤ w ∧ w ≤ 12)) (hl : ∀ p, some p ∈ l → p < 15) (h : PfAt σ x l) : call (d + 1) 41 [vR 3 0, vI (nI w)] σ = some (some (vI (pfA x l w)), σ) := by
  unfold pfA
  by_cases c0 : w = 0
  · rw [if_pos c0, c0]
    simp only [s41_e, s41_0, s41_4, s41_9, s41_18, s41_23, s41_29, s41_32, s41_35, s41_36, show (nI 0 = 0) = True by decide, h.1, Option.bind_some, Option.toList_some, Option.toList_none, List.cons_append, List.nil_append, true_or, or_true, if_true, if_false, i10, i01, Bool.false_eq_true]
  · have c1 : 10 ≤ w ∧ w ≤ 12 := by omega
    rw [if_neg c0]
    have e0 : ¬ nI w = 0 := by rw [show (0 : Int32) = nI 0 from rfl, eqN (by omega) (by omega)]; exact c0
    have e1 : nI w - 10 = nI (w - 10) := by rw [show (10 : Int32) = nI 10 from rfl, pk_sub (by omega)]
    have lt3 : nI (w - 10) < 3 := by rw [show (3 : Int32) = nI 3 from rfl]; exact ltn (by omega) (by omega)
    have hb := h.2 (w - 10) (by omega)
    have hp := c_pairNumber (d := d) (σ := σ) (o := (l[w - 10]?).getD none) (fun p hp => by
      cases hg : l[w - 10]? with
      | none => rw [hg] at hp; cases hp
      | some y =>
        rw [hg] at hp
        have : y = some p := hp
        subst this
        exact hl p (List.mem_of_getElem? hg))
    simp only [s41_e, s41_0, s41_4, s41_9, s41_18, s41_23, s41_29, s41_32, s41_35, s41_36, e0, e1, lt0N (show w - 10 ≤ 100000 by omega), lt3, oob_nI (show w - 10 < 3 by omega) (by decide), clN (show w - 10 ≤ 100000 by omega), hb, hp, Option.bind_some, Option.toList_some, Option.toList_none, List.cons_append, List.nil_append, true_or, or_true, if_true, if_false, i10, i01, Bool.false_eq_true]
/-- an arbiter's peace, or none -/
def pcO (o : Option Nat) (A : Nat → Int32) : Nat → Int32 := match o with
  | none => A
  | some p => pcA p A
/-- the so-manieth choice -/
def opt (k : Nat) : Option Nat := if k = 0 then none else some (k - 1)
theorem opt_s {k : Nat} : en (opt k) + 1 = nI k := by
  unfold opt
  by_cases h : k = 0
  · rw [if_pos h, h]; decide
  · rw [if_neg h, en_some, add1N]; congr 1; omega
def okO (n : Nat) (A : Nat → Int32) (o : Option Nat) : Prop := match o with
  | none => True
  | some p => hasA n A p
def flw {S : Type} (g : Nat → S → S) : Nat → Nat → S → S
  | 0, _, s => s
  | f + 1, k, s => flw g f (k + 1) (g k s)
noncomputable def lfv (n : Nat) (K W A : Nat → Int32) : Nat := stc n K W A + (crs (pick n K W A) n n).1
noncomputable def abl (n : Nat) (K W : Nat → Int32) : Nat → List (Option Nat) → (Nat → Int32) → Nat × List (Option Nat) → Nat × List (Option Nat)
  | 0, path, A, s => if lfv n K W A < s.1 then (lfv n K W A, path) else s
  | r + 1, path, A, s => flw (fun k s => @ite _ (okO n A (opt k)) (Classical.propDecidable _) (abl n K W r (path ++ [opt k]) (mor n K W (pcO (opt k) A)) s) s) 16 0 s
theorem flw_id {S : Type} {g : Nat → S → S} {s : S} (h : ∀ k, g k s = s) : ∀ f k, flw g f k s = s
  | 0, _ => rfl
  | f + 1, k => by rw [flw, h, flw_id h f]
theorem abl_0 : ∀ r path (A : Nat → Int32) (s : Nat × List (Option Nat)), s.1 = 0 → abl n K W r path A s = s
  | 0, path, A, s, h => by rw [abl, if_neg (by omega)]
  | r + 1, path, A, s, h => by
    rw [abl]
    refine flw_id (fun k => ?_) 16 0
    split
    · exact abl_0 r _ _ s h
    · rfl
theorem abl_le : ∀ r path (A : Nat → Int32) (s : Nat × List (Option Nat)), (abl n K W r path A s).1 ≤ s.1
  | 0, path, A, s => by
    rw [abl]
    split
    · show lfv n K W A ≤ s.1; omega
    · exact Nat.le_refl _
  | r + 1, path, A, s => by
    rw [abl]
    have : ∀ f k s, (flw (fun k s => @ite _ (okO n A (opt k)) (Classical.propDecidable _) (abl n K W r (path ++ [opt k]) (mor n K W (pcO (opt k) A)) s) s) f k s).1 ≤ s.1 := by
      intro f
      induction f with
      | zero => intro k s; exact Nat.le_refl _
      | succ f ih =>
        intro k s
        rw [flw]
        refine Nat.le_trans (ih (k + 1) _) ?_
        split
        · exact abl_le r _ _ s
        · exact Nat.le_refl _
    exact this 16 0 s
theorem lfv_le (h6 : n ≤ 6) : lfv n K W A ≤ 12 := by
  have h1 : stc n K W A ≤ n := cn_le n
  have h2 := (crs_lt (F := pick n K W A) (n := n) h6 (fun a b h => pick_lt h) n (Nat.le_refl n)).2
  unfold lfv
  omega
theorem c_rings {q : Nat} (h6 : n ≤ 6) (h : Lv σ q n K W A) : call (d + 2) 73 [vR 5 q] σ = some (some (vI (nI (crs (pick n K W A) n n).1)), σ) := c_countRings h.1 h6 h.2.2.2.2 (fun a b h => pick_lt h)
def BF (D : Nat) : Nat → Nat → Prop := fun t q => (t = 3 ∧ q = 0) ∨ (t = 22 ∧ q = 0) ∨ CF D t q
theorem BF.mono {D D' : Nat} {σ σ' : St} (h : D ≤ D') (g : Ag (BF D') σ σ') : Ag (BF D) σ σ' := Ag.mono g (fun t q z => by unfold BF CF at z ⊢; omega)
theorem BF.scr {D : Nat} {σ σ' : St} (g : Ag (BF D) σ σ') : Ag Scr σ σ' := Ag.mono g (fun t q z => by unfold BF CF at z; unfold Scr; omega)
theorem c_weigh {x : Nat} {s : Nat × List (Option Nat)} {path : List (Option Nat)} (hx : x ≤ 1000) (hs : s.1 ≤ 1000) (hp : PfAt σ (nI s.1) s.2) (ht : ∀ i, i < 3 → ar σ 21 0 i = en ((path[i]?).getD none)) : ∃ σ', call d 38 [vR 3 0, vI (nI x)] σ = some (none, σ') ∧ PfAt σ' (nI (if x < s.1 then x else s.1)) (if x < s.1 then path else s.2) ∧ ar σ' 3 0 8 = ar σ 3 0 8 ∧ Ag (fun t q => (t = 3 ∨ t = 22) ∧ q = 0) σ σ' := by
  have e1 : (nI x < nI s.1) = (x < s.1) := ltN (by omega) (by omega)
  by_cases c : x < s.1
  · rw [if_pos c, if_pos c]
    refine ⟨sw (se σ 3 0 6 (nI x)) 22 0 (ar σ 21 0), ?_, ⟨?_, fun i hi => ?_⟩, ?_, (Ag.sw ⟨Or.inl rfl, rfl⟩).tr (Ag.sw ⟨Or.inr rfl, rfl⟩)⟩
    · simp only [s38_e, s38_0, s38_8, s38_27, hp.1, e1.trans (eq_true c), Option.bind_some, Option.toList_some, Option.toList_none, List.cons_append, List.nil_append, true_or, or_true, if_true, if_false, i10, i01, Bool.false_eq_true, ar_sw_t, ar_sw_s, se_def, sw_sw, ne_eq, not_false_eq_true, Nat.reduceEqDiff]
    · simp only [ar_sw_t, ar_sw_s, se_def, sw_sw, ne_eq, not_false_eq_true, Nat.reduceEqDiff, upd_s]
    · simp only [ar_sw_t, ar_sw_s, se_def, sw_sw, ne_eq, not_false_eq_true, Nat.reduceEqDiff]; exact ht i hi
    · simp only [ar_sw_t, ar_sw_s, se_def, sw_sw, ne_eq, not_false_eq_true, Nat.reduceEqDiff, upd_n]
  · rw [if_neg c, if_neg c]
    refine ⟨σ, ?_, hp, rfl, Ag.rf⟩
    simp only [s38_e, s38_0, s38_8, s38_27, hp.1, e1.trans (eq_false c), Option.bind_some, Option.toList_some, Option.toList_none, List.cons_append, List.nil_append, true_or, or_true, if_true, if_false, i10, i01, Bool.false_eq_true]
theorem c_arbits {m : Nat} (h6 : n ≤ 6) : ∀ r D, D + r = m → m ≤ 3 → ∀ (path : List (Option Nat)) (A : Nat → Int32) (s : Nat × List (Option Nat)) (σ : St), path.length = D → Lv σ (3 + D) n K W A → ar σ 3 0 8 = nI m → s.1 ≤ 99 → PfAt σ (nI s.1) s.2 → (∀ i, i < 3 → (i < D ∨ m ≤ i) → ar σ 21 0 i = en ((path[i]?).getD none)) →
    ∃ σ', call (d + 4 + r) 37 [vR 3 0, vI (nI D)] σ = some (none, σ') ∧ PfAt σ' (nI (abl n K W r path A s).1) (abl n K W r path A s).2 ∧ ar σ' 3 0 8 = nI m ∧ (∀ i, i < 3 → (i < D ∨ m ≤ i) → ar σ' 21 0 i = ar σ 21 0 i) ∧ Ag (BF (D + 1)) σ σ' := by
  intro r
  induction r with
  | zero =>
    intro D hD hm path A s σ hpl h h8 hs hp ht
    have e : D = m := by omega
    subst e
    have e1 := c_stares (d := d + 1) h6 h
    have e2 := c_rings (d := d + 1) h6 h
    have hle := lfv_le (n := n) (K := K) (W := W) (A := A) h6
    obtain ⟨σ1, e3, p1, k8, g1⟩ := c_weigh (d := d + 3) (x := lfv n K W A) (path := path) (by omega) (by omega) hp (fun i hi => ht i hi (by omega))
    refine ⟨σ1, ?_, ?_, by rw [k8]; exact h8, fun i hi _ => by rw [g1.1 _ _ (fun z => by have := z.1; omega)], g1.mono (fun t q z => by unfold BF; omega)⟩
    · have e3' := e3
      unfold lfv at e3'
      simp only [s37_0, s37_5, s37_19, s37_24, s37_28, s37_32, s37_e, c_behind (show D ≤ 3 by omega), h8, if_neg nlt, e1, e2, addN, e3', Nat.add_zero, Option.bind_some, Option.toList_some, Option.toList_none, List.cons_append, List.nil_append, true_or, or_true, if_true, if_false, i10, i01, Bool.false_eq_true]
    · rw [abl]
      by_cases c : lfv n K W A < s.1
      · rw [if_pos c] at p1 ⊢
        rw [if_pos c] at p1
        exact p1
      · rw [if_neg c] at p1 ⊢
        rw [if_neg c] at p1
        exact p1
  | succ r ih =>
    intro D hD hm path A s σ hpl h h8 hs hp ht
    have loop : ∀ f k, k + f = 16 → ∀ (s : Nat × List (Option Nat)) (σ : St), Lv σ (3 + D) n K W A → ar σ 3 0 8 = nI m → s.1 ≤ 99 → PfAt σ (nI s.1) s.2 → (∀ i, i < 3 → (i < D ∨ m ≤ i) → ar σ 21 0 i = en ((path[i]?).getD none)) →
        ∃ σ', exec (d + 4 + (r + 1)) 37 44 [vR 3 0, vI (nI D), vR 5 (3 + D), vR 5 (3 + (D + 1)), vI (en (opt k))] [] σ = some (none, σ') ∧ PfAt σ' (nI (flw (fun k s => @ite _ (okO n A (opt k)) (Classical.propDecidable _) (abl n K W r (path ++ [opt k]) (mor n K W (pcO (opt k) A)) s) s) f k s).1) (flw (fun k s => @ite _ (okO n A (opt k)) (Classical.propDecidable _) (abl n K W r (path ++ [opt k]) (mor n K W (pcO (opt k) A)) s) s) f k s).2 ∧ ar σ' 3 0 8 = nI m ∧ (∀ i, i < 3 → (i < D ∨ m ≤ i) → ar σ' 21 0 i = ar σ 21 0 i) ∧ Ag (BF (D + 1)) σ σ' := by
      intro f
      induction f with
      | zero =>
        intro k hk s σ h h8 hs hp ht
        have e : k = 16 := by omega
        subst e
        refine ⟨σ, ?_, hp, h8, fun _ _ _ => rfl, Ag.rf⟩
        rw [s37_44, show en (opt 16) = nI 15 from rfl, show (15 : Int32) = nI 15 from rfl, if_neg nlt, s37_94]
      | succ f ihf =>
        intro k hk s σ h h8 hs hp ht
        have lt15 : en (opt k) < 15 := by
          unfold opt
          by_cases c : k = 0
          · rw [if_pos c]; decide
          · rw [if_neg c, en_some, show (15 : Int32) = nI 15 from rfl]; exact ltn (by omega) (by omega)
        have e06 : ((0 : Int32) < nI s.1) = (0 < s.1) := by rw [show (0 : Int32) = nI 0 from rfl, ltN (by omega) (by omega)]
        have dd : d + 4 + (r + 1) = d + 4 + r + 1 := by omega
        by_cases c0 : s.1 = 0
        · have hid : flw (fun k s => @ite _ (okO n A (opt k)) (Classical.propDecidable _) (abl n K W r (path ++ [opt k]) (mor n K W (pcO (opt k) A)) s) s) (f + 1) k s = s := flw_id (fun k => by
            split
            · exact abl_0 r _ _ s c0
            · rfl) _ _
          rw [hid]
          refine ⟨σ, ?_, hp, h8, fun _ _ _ => rfl, Ag.rf⟩
          rw [s37_44, if_pos lt15, s37_51, hp.1, if_neg (by rw [e06]; omega), s37_94]
        · by_cases c1 : okO n A (opt k)
          · have hmk : ∃ σ1, call (d + 4 + r) 39 [vR 5 (3 + D), vR 5 (3 + (D + 1)), vI (en (opt k))] σ = some (some (vI 1), σ1) ∧ Lv σ1 (3 + (D + 1)) n K W (pcO (opt k) A) ∧ Ag (SB (3 + (D + 1))) σ σ1 := by
              cases ho : opt k with
              | none =>
                rw [en_none]
                exact c_makesPeace_n (d := d + 3 + r) (by omega) h |> fun z => by rw [show d + 4 + r = d + 3 + r + 1 by omega]; exact z
              | some p =>
                rw [ho] at c1
                have hp15 : p < 15 := by
                  unfold opt at ho
                  by_cases c : k = 0
                  · rw [if_pos c] at ho; cases ho
                  · rw [if_neg c] at ho; cases ho; omega
                rw [en_some, show d + 4 + r = d + 1 + r + 3 by omega]
                exact c_makesPeace_t h6 hp15 (by omega) h c1
            obtain ⟨σ1, e1, L1, g1⟩ := hmk
            obtain ⟨σ2, hσ2⟩ : ∃ x, x = se σ1 21 0 D (en (opt k)) := ⟨_, rfl⟩
            have L2 : Lv σ2 (3 + (D + 1)) n K W (pcO (opt k) A) := by rw [hσ2]; exact L1.ag (S := fun t _ => t = 21) (Ag.sw rfl) (fun t ht (z : t = 21) => by omega)
            obtain ⟨σ3, e3, L3, g3⟩ := c_changeAngers (d := d + 2 + r) h6 L2
            have g2 : Ag (fun t q => t = 21 ∧ q = 0) σ1 σ2 := by rw [hσ2]; exact Ag.sw ⟨rfl, rfl⟩
            have gX : Ag (fun t q => (t = 21 ∧ q = 0) ∨ SB (3 + (D + 1)) t q) σ σ3 := ((g1.mono (fun t q z => Or.inr z)).tr (g2.mono (fun t q z => Or.inl z))).tr (g3.SA_SB.mono (fun t q z => Or.inr z))
            have b3 : ar σ3 3 0 = ar σ 3 0 := gX.1 _ _ (by unfold SB; omega)
            have b22 : ar σ3 22 0 = ar σ 22 0 := gX.1 _ _ (by unfold SB; omega)
            have t3 : ∀ i, i < 3 → ar σ3 21 0 i = if i = D then en (opt k) else ar σ 21 0 i := fun i hi => by
              rw [g3.1 _ _ (by unfold SA; omega), hσ2, se_def, ar_sw_s, upd_if]
              by_cases e : i = D
              · rw [if_pos e, if_pos e]
              · rw [if_neg e, if_neg e, g1.1 _ _ (by unfold SB; omega)]
            have gpl : (path ++ [opt k]).length = D + 1 := by rw [List.length_append, hpl]; rfl
            have gget : ∀ i, i ≠ D → ((path ++ [opt k])[i]?).getD none = (path[i]?).getD none := fun i hi => by
              by_cases c : i < D
              · rw [List.getElem?_append_left (by omega)]
              · rw [List.getElem?_eq_none (by omega), List.getElem?_eq_none (by omega)]
            have ggD : ((path ++ [opt k])[D]?).getD none = opt k := by
              rw [List.getElem?_append_right (by omega), hpl, Nat.sub_self]; rfl
            obtain ⟨σ4, e4, p4, k8, t4, g4⟩ := ih (D + 1) (by omega) hm (path ++ [opt k]) (mor n K W (pcO (opt k) A)) s σ3 gpl L3 (by rw [b3]; exact h8) hs ⟨by rw [b3]; exact hp.1, fun i hi => by rw [b22]; exact hp.2 i hi⟩ (fun i hi hc => by
              rw [t3 i hi]
              by_cases e : i = D
              · rw [if_pos e, e, ggD]
              · rw [if_neg e, gget i e]; exact ht i hi (by omega))
            have gY : Ag (BF (D + 1)) σ σ4 := (gX.mono (fun t q z => by unfold SB at z; unfold BF CF; omega)).tr (BF.mono (by omega) g4)
            have L4 : Lv σ4 (3 + D) n K W A := h.ag gY (fun t ht z => by unfold BF CF at z; omega)
            have t4' : ∀ i, i < 3 → (i < D ∨ m ≤ i) → ar σ4 21 0 i = ar σ 21 0 i := fun i hi hc => by
              rw [t4 i hi (by omega), t3 i hi, if_neg (by omega)]
            have hle := abl_le (n := n) (K := K) (W := W) r (path ++ [opt k]) (mor n K W (pcO (opt k) A)) s
            obtain ⟨σ5, e5, p5, z8, t5, g5⟩ := ihf (k + 1) (by omega) (abl n K W r (path ++ [opt k]) (mor n K W (pcO (opt k) A)) s) σ4 L4 k8 (by omega) p4 (fun i hi hc => by rw [t4' i hi hc]; exact ht i hi hc)
            have hfl : flw (fun k s => @ite _ (okO n A (opt k)) (Classical.propDecidable _) (abl n K W r (path ++ [opt k]) (mor n K W (pcO (opt k) A)) s) s) (f + 1) k s = flw (fun k s => @ite _ (okO n A (opt k)) (Classical.propDecidable _) (abl n K W r (path ++ [opt k]) (mor n K W (pcO (opt k) A)) s) s) f (k + 1) (abl n K W r (path ++ [opt k]) (mor n K W (pcO (opt k) A)) s) := by
              rw [flw, if_pos c1]
            rw [hfl]
            refine ⟨σ5, ?_, p5, z8, fun i hi hc => by rw [t5 i hi hc, t4' i hi hc], gY.tr g5⟩
            have onx : en (opt (k + 1)) = nI k := by unfold opt; rw [if_neg (by omega), en_some]; rfl
            rw [onx, dd] at e5
            rw [dd, s37_44, if_pos lt15, s37_51, hp.1, if_pos (by rw [e06]; omega)]
            rw [hσ2] at e3
            simp only [s37_58, s37_65, s37_68, s37_76, s37_80, s37_88, e1, oob_nI (show D < 3 by omega) (by decide), clN (show D ≤ 100000 by omega), Option.bind_some, Option.toList_some, Option.toList_none, List.cons_append, List.nil_append, true_or, or_true, if_true, if_false, i10, i01, Bool.false_eq_true, add1N, opt_s]
            rw [show d + 4 + r = d + 2 + r + 2 by omega] at e4 e5 ⊢
            simp only [e3, s37_80, e4, s37_88, Option.bind_some, Option.toList_some, Option.toList_none, List.cons_append, List.nil_append, true_or, or_true, if_true, if_false, i10, i01, Bool.false_eq_true, add1N, opt_s]
            exact e5
          · have hfl : flw (fun k s => @ite _ (okO n A (opt k)) (Classical.propDecidable _) (abl n K W r (path ++ [opt k]) (mor n K W (pcO (opt k) A)) s) s) (f + 1) k s = flw (fun k s => @ite _ (okO n A (opt k)) (Classical.propDecidable _) (abl n K W r (path ++ [opt k]) (mor n K W (pcO (opt k) A)) s) s) f (k + 1) s := by
              rw [flw, if_neg c1]
            rw [hfl]
            obtain ⟨σ5, e5, p5, z8, t5, g5⟩ := ihf (k + 1) (by omega) s σ h h8 hs hp ht
            refine ⟨σ5, ?_, p5, z8, t5, g5⟩
            have onx : en (opt (k + 1)) = nI k := by unfold opt; rw [if_neg (by omega), en_some]; rfl
            have hk0 : k ≠ 0 := fun z => c1 (by rw [z]; exact trivial)
            have ho : opt k = some (k - 1) := by unfold opt; rw [if_neg hk0]
            rw [ho] at c1 lt15
            have e1 := c_makesPeace_f (d := d + 1 + r) (σ := σ) (q := 3 + D) (q' := 3 + (D + 1)) (p := k - 1) h6 (show k - 1 < 15 by omega) h c1
            rw [en_some] at lt15
            rw [onx, dd] at e5
            rw [ho, dd, s37_44, en_some, if_pos lt15, s37_51, hp.1, if_pos (by rw [e06]; omega)]
            simp only [s37_58, s37_65, s37_88, show d + 4 + r = d + 1 + r + 3 by omega, e1, Option.bind_some, Option.toList_some, Option.toList_none, List.cons_append, List.nil_append, true_or, or_true, if_true, if_false, i10, i01, Bool.false_eq_true, add1N, show k - 1 + 1 = k by omega] at e5 ⊢
            exact e5
    obtain ⟨σ', e, p, k8, t, g⟩ := loop 16 0 (by omega) s σ h h8 hs hp ht
    refine ⟨σ', ?_, p, k8, t, g⟩
    have dd : d + 4 + (r + 1) = d + 4 + r + 1 := by omega
    have lt3 : nI D < 3 := by rw [show (3 : Int32) = nI 3 from rfl]; exact ltn (by omega) (by omega)
    rw [dd] at e ⊢
    rw [s37_e, s37_0]
    simp only [s37_5, s37_14, s37_33, s37_40, c_behind (show D ≤ 3 by omega), c_behind (show D + 1 ≤ 3 by omega), h8, if_pos (ltn (show D < m by omega) (by omega)), lt3, add1N, Option.bind_some, Option.toList_some, Option.toList_none, List.cons_append, List.nil_append, true_or, or_true, if_true, if_false, i10, i01, Bool.false_eq_true]
    exact e
noncomputable def abR (n : Nat) (K W A : Nat → Int32) (m : Nat) : Nat × List (Option Nat) := abl n K W m [] A (99, [])
theorem abl_lt : ∀ r path (A : Nat → Int32) (s : Nat × List (Option Nat)), (∀ p, some p ∈ path → p < 15) → (∀ p, some p ∈ s.2 → p < 15) → ∀ p, some p ∈ (abl n K W r path A s).2 → p < 15
  | 0, path, A, s, h1, h2, p, hp => by
    rw [abl] at hp
    split at hp
    · exact h1 p hp
    · exact h2 p hp
  | r + 1, path, A, s, h1, h2, p, hp => by
    rw [abl] at hp
    have : ∀ f k s, k + f = 16 → (∀ p, some p ∈ s.2 → p < 15) → ∀ p, some p ∈ (flw (fun k s => @ite _ (okO n A (opt k)) (Classical.propDecidable _) (abl n K W r (path ++ [opt k]) (mor n K W (pcO (opt k) A)) s) s) f k s).2 → p < 15 := by
      intro f
      induction f with
      | zero => intro k s _ h p hp; exact h p hp
      | succ f ih =>
        intro k s hk h p hp
        rw [flw] at hp
        refine ih (k + 1) _ (by omega) ?_ p hp
        intro p hp
        split at hp
        · refine abl_lt r _ _ s (fun p hp => ?_) h p hp
          rcases List.mem_append.mp hp with h | h
          · exact h1 p h
          · have := List.mem_singleton.mp h
            unfold opt at this
            split at this
            · cases this
            · cases this; omega
        · exact h p hp
    exact this 16 0 s (by omega) h2 p hp
theorem c_arbitrate {m : Nat} (h6 : n ≤ 6) (hm : m ≤ 3) (h : Lv σ 0 n K W A) : ∃ σ', call (d + 8) 36 [vR 3 0, vR 5 0, vI (nI m)] σ = some (none, σ') ∧ PfAt σ' (nI (abR n K W A m).1) (abR n K W A m).2 ∧ (∀ p, some p ∈ (abR n K W A m).2 → p < 15) ∧ Ag Scr σ σ' := by
  have ef := c_fillT (d := d + 7) (σ := se (se σ 3 0 8 (nI m)) 3 0 6 99) (t := 22) (x := -1) (Or.inr rfl)
  obtain ⟨σ1, hσ1⟩ : ∃ x, x = sw (se (se σ 3 0 8 (nI m)) 3 0 6 99) 22 0 (fun j => if j < 3 then -1 else ar (se (se σ 3 0 8 (nI m)) 3 0 6 99) 22 0 j) := ⟨_, rfl⟩
  rw [← hσ1] at ef
  have ef2 := c_fillT (d := d + 7) (σ := σ1) (t := 21) (x := -1) (Or.inl rfl)
  obtain ⟨σ2, hσ2⟩ : ∃ x, x = sw σ1 21 0 (fun j => if j < 3 then -1 else ar σ1 21 0 j) := ⟨_, rfl⟩
  rw [← hσ2] at ef2
  have g2 : Ag Scr σ σ2 := by
    rw [hσ2, hσ1]
    exact (((Ag.sw (by unfold Scr; omega)).tr (Ag.sw (by unfold Scr; omega))).tr (Ag.sw (by unfold Scr; omega))).tr (Ag.sw (by unfold Scr; omega))
  obtain ⟨σ3, e3, L3, g3⟩ := c_copyLv (d := d + 7) (σ := σ2) (q := 3) (q' := 0) (by decide) (h.ag g2 Scr_0)
  have n3 : ¬ SB 3 3 0 := by unfold SB; omega
  have n21 : ¬ SB 3 21 0 := by unfold SB; omega
  have n22 : ¬ SB 3 22 0 := by unfold SB; omega
  obtain ⟨σ4, e4, p4, -, -, g4⟩ := c_arbits (d := d + 3 - m) (K := K) (W := W) (m := m) h6 m 0 (by omega) hm [] A (99, []) σ3 rfl L3 (by rw [g3.1 _ _ n3, hσ2, hσ1]; simp only [ar_sw_t, ar_sw_s, se_def, sw_sw, ne_eq, not_false_eq_true, Nat.reduceEqDiff, upd_n, upd_s]) (by show 99 ≤ 99; omega) ⟨by rw [g3.1 _ _ n3, hσ2, hσ1]; simp only [ar_sw_t, ar_sw_s, se_def, sw_sw, ne_eq, not_false_eq_true, Nat.reduceEqDiff, upd_s]; rfl, fun i hi => by rw [g3.1 _ _ n22, hσ2, ar_sw_t (by decide), hσ1, ar_sw_s, if_pos hi]; rfl⟩ (fun i hi _ => by rw [g3.1 _ _ n21, hσ2, ar_sw_s, if_pos hi]; rfl)
  rw [show d + 3 - m + 4 + m = d + 7 by omega] at e4
  refine ⟨σ4, ?_, p4, abl_lt m [] A (99, []) (fun p hp => (by cases hp)) (fun p hp => (by cases hp)), (g2.tr (g3.SB_Scr (by omega))).tr (BF.scr g4)⟩
  simp only [s36_e, s36_0, s36_19, s36_27, s36_35, s36_40, ef, ef2, e3, show (0 : Int32) = nI 0 from rfl, e4, Option.bind_some, Option.toList_some, Option.toList_none, List.cons_append, List.nil_append, true_or, or_true, if_true, if_false, i10, i01, Bool.false_eq_true]
end PM2

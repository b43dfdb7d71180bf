/-! The reference: rows of peaces. -/
def RowAt (σ : St) (t : Nat) (row : List Nat) : Prop := ∀ k x, row[k]? = some x → ar σ t 0 k = nI x
theorem RowAt.ag {S : Nat → Nat → Prop} {σ σ' : St} {t : Nat} {row : List Nat} (h : RowAt σ t row) (hg : Ag S σ σ') (ht : ¬ S t 0) : RowAt σ' t row := fun k x hx => by rw [hg.1 _ _ ht]; exact h k x hx
def Vr (N : Nat) : Nat → List Nat → Prop
  | _, [] => True
  | lo, i :: row => lo ≤ i ∧ i + row.length < N ∧ Vr N (i + 1) row
theorem Vr.lt {N : Nat} : ∀ {lo : Nat} {row : List Nat}, Vr N lo row → ∀ x ∈ row, x < N
  | _, [], _, x, h => (by cases h)
  | _, i :: row, h, x, hx => by
    rcases List.mem_cons.mp hx with rfl | hx
    · have := h.2.1; omega
    · exact h.2.2.lt x hx
theorem Vr_range {N : Nat} : ∀ (r lo a : Nat), lo ≤ a → a + r ≤ N → Vr N lo (List.range' a r)
  | 0, _, _, _, _ => trivial
  | r + 1, lo, a, h1, h2 => by
    rw [List.range'_succ]
    exact ⟨h1, by rw [List.length_range']; omega, Vr_range r (a + 1) (a + 1) (Nat.le_refl _) (by omega)⟩
theorem Vr_nxt {N : Nat} : ∀ {lo : Nat} {row row' : List Nat}, Vr N lo row → nxt N row = some row' → Vr N lo row'
  | _, [], _, _, h => by cases h
  | lo, i :: row, row', hv, h => by
    rw [nxt] at h
    cases h1 : nxt N row with
    | some x =>
      rw [h1] at h
      cases h
      exact ⟨hv.1, by rw [nxt_len h1]; exact hv.2.1, Vr_nxt hv.2.2 h1⟩
    | none =>
      rw [h1] at h
      dsimp only at h
      split at h
      · cases h
        exact Vr_range _ _ _ (by have := hv.1; omega) (by omega)
      · cases h
section CB
variable {d : Nat} {σ : St} {n : Nat} {K W A : Nat → Int32}
theorem ZA_pc {p : Nat} (h : ZA n A) : ZA n (pcA p A) := fun j hj hc => by
  unfold pcA
  rw [upd_if, upd_if]
  split
  · rfl
  · split
    · rfl
    · exact h j hj hc
theorem ZA_apl : ∀ (l : List Nat) (A : Nat → Int32), ZA n A → ZA n (apl A l)
  | [], _, h => h
  | p :: l, A, h => ZA_apl l (pcA p A) (ZA_pc h)
theorem apl_snoc {l : List Nat} {p : Nat} : apl A (l ++ [p]) = pcA p (apl A l) := by
  unfold apl
  rw [List.foldl_append]
  rfl
theorem m_isCalm {m B : Nat} {row : List Nat} (h6 : n ≤ 6) (hm : m ≤ 1000) (hB : B < 64) (hW1 : W01 W) (hz : ZA n A) (h : Mr σ n K W) (hT : Tb σ 35 A) (hr3 : row.length ≤ 3) (hrow : RowAt σ 43 row) (hlt : ∀ x ∈ row, x < Pn n) : ∃ σ', call (d + 4) 178 [vR 7 0, vI (nI B), vI (nI m), vR 43 0, vI (nI row.length)] σ = some (some (vI (if Cm n K W m B (apl A (row.map (prn n))) = true then 1 else 0)), σ') ∧ Ag (GM 41) σ σ' := by
  have loop : ∀ f k, k + f = row.length → ∀ σ : St, Mr σ n K W → Tb σ 41 (apl A ((row.take k).map (prn n))) → RowAt σ 43 row → ∃ σ', exec (d + 4) 178 14 [vR 7 0, vI (nI B), vI (nI m), vR 43 0, vI (nI row.length), vI (nI k), vN] [] σ = exec (d + 4) 178 43 [vR 7 0, vI (nI B), vI (nI m), vR 43 0, vI (nI row.length), vI (nI row.length), vN] [] σ' ∧ Tb σ' 41 (apl A (row.map (prn n))) ∧ Ag (fun x q => x = 41 ∧ q = 0) σ σ' := by
    intro f
    induction f with
    | zero =>
      intro k hk σ h hT hrow
      have e : k = row.length := by omega
      subst e
      rw [List.take_length] at hT
      exact ⟨σ, by rw [s178_14, if_neg nlt], hT, Ag.rf⟩
    | succ f ih =>
      intro k hk σ h hT hrow
      have hk2 : k < row.length := by omega
      have hget := List.getElem?_eq_getElem hk2
      have hx := hrow k _ hget
      have hxl := hlt _ (List.getElem_mem hk2)
      obtain ⟨hp15, -⟩ := PN_lt n h6 _ hxl
      have e1 := m_pairAt (d := d + 3) h.1 h6 hxl
      obtain ⟨σ1, e2, T1, g1⟩ := m_makePeace (d := d + 3) hp15 hT
      have e3 : pcA (prn n row[k]) (apl A ((row.take k).map (prn n))) = apl A ((row.take (k + 1)).map (prn n)) := by
        rw [List.take_succ_eq_append_getElem hk2, List.map_append, List.map_cons, List.map_nil, apl_snoc]
      rw [e3] at T1
      obtain ⟨σ2, e4, T2, g2⟩ := ih (k + 1) (by omega) σ1 (h.ag g1 (by omega) (by omega) (by omega)) T1 (hrow.ag g1 (by omega))
      refine ⟨σ2, ?_, T2, g1.tr g2⟩
      have i3 : oob (nI k) (lenT 43) = false := oob_nI (show k < 3 by omega) (by decide)
      rw [s178_14, if_pos (ltn hk2 (by omega))]
      simp only [s178_21 (show (43 : Nat) < 60 by decide), s178_31, s178_34, s178_37, i3, clN (show k ≤ 100000 by omega), hx, e1, e2, add1N, Option.bind_some, Option.toList_some, Option.toList_none, List.cons_append, List.nil_append, true_or, or_true, if_true, if_false, i10, i01, Bool.false_eq_true]
      exact e4
  obtain ⟨σ1, e1, T1, g1⟩ := m_toWork (d := d + 3) hT
  obtain ⟨σ2, e2, T2, g2⟩ := loop row.length 0 (by omega) σ1 (h.qm g1.wq) T1 (hrow.ag g1 (by omega))
  have g12 := g1.tr g2
  obtain ⟨σ3, e3, T3, F3, g3⟩ := m_goMornings (d := d) (m := m) (Or.inr rfl) h6 hm hW1 σ2 _ (h.qm g12.wq) T2 (ZA_apl _ _ hz)
  have g : Ag (GM 41) σ σ3 := (g12.mono (fun x q z => ⟨z.2, Or.inl z.1⟩)).tr g3
  have hn3 := (h.gm (Or.inr rfl) g).1
  refine ⟨σ3, ?_, g⟩
  obtain ⟨A', hA'⟩ : ∃ x, x = apl A (row.map (prn n)) := ⟨_, rfl⟩
  rw [← hA'] at F3 ⊢
  have fin : ∀ f b (is : Bool), b + f = n → is = allb (fun x => !B.testBit x || decide (pick n K W (morN n K W m A') x = none)) b → exec (d + 4) 178 58 [vR 7 0, vI (nI B), vI (nI m), vR 43 0, vI (nI row.length), vI (if is = true then 1 else 0), vI (nI b)] [] σ3 = some (some (vI (if Cm n K W m B A' = true then 1 else 0)), σ3) := by
    intro f
    induction f with
    | zero =>
      intro b is hb his
      have e : b = n := by omega
      subst e
      rw [s178_58, hn3, if_neg nlt, s178_105]
      have : is = Cm b K W m B A' := his
      rw [this]
      cases Cm b K W m B A' <;> simp
    | succ f ih =>
      intro b is hb his
      have hf := F3 b (by omega)
      have e1 := en_m1 (o := pick n K W (morN n K W m A') b) (fun c hc => by have := pick_lt hc; omega)
      rw [s178_58, hn3, if_pos (ltn (show b < n by omega) (by omega))]
      cases is with
      | false =>
        have := ih (b + 1) false (by omega) (by rw [allb, ← his]; rfl)
        simp only [s178_67, s178_96, s178_97, add1N, Option.bind_some, Option.toList_some, Option.toList_none, List.cons_append, List.nil_append, true_or, or_true, if_true, if_false, i10, i01, Bool.false_eq_true]
        simp only [Bool.false_eq_true, if_false] at this
        exact this
      | true =>
        cases c1 : B.testBit b with
        | false =>
          have := ih (b + 1) true (by omega) (by rw [allb, ← his, c1]; rfl)
          simp only [if_true] at this
          simp only [s178_67, s178_72, s178_92, s178_97, bits_at B hB b (show b < 6 by omega), c1, add1N, Option.bind_some, Option.toList_some, Option.toList_none, List.cons_append, List.nil_append, true_or, or_true, if_true, if_false, i10, i01, Bool.false_eq_true]
          exact this
        | true =>
          by_cases c2 : pick n K W (morN n K W m A') b = none
          · have := ih (b + 1) true (by omega) (by rw [allb, ← his, c1, decide_eq_true c2]; rfl)
            simp only [if_true] at this
            simp only [s178_67, s178_72, s178_81, s178_88, s178_92, s178_97, bits_at B hB b (show b < 6 by omega), c1, oob_nI (show b < 6 by omega) (by decide), cl6 (show b < 6 by omega), hf, e1.trans (eq_true c2), add1N, Option.bind_some, Option.toList_some, Option.toList_none, List.cons_append, List.nil_append, true_or, or_true, if_true, if_false, i10, i01, Bool.false_eq_true]
            exact this
          · have := ih (b + 1) false (by omega) (by rw [allb, ← his, c1, decide_eq_false c2]; rfl)
            simp only [Bool.false_eq_true, if_false] at this
            simp only [s178_67, s178_72, s178_81, s178_88, s178_96, s178_97, bits_at B hB b (show b < 6 by omega), c1, oob_nI (show b < 6 by omega) (by decide), cl6 (show b < 6 by omega), hf, e1.trans (eq_false c2), add1N, Option.bind_some, Option.toList_some, Option.toList_none, List.cons_append, List.nil_append, true_or, or_true, if_true, if_false, i10, i01, Bool.false_eq_true]
            exact this
  have := fin n 0 true (by omega) rfl
  simp only [if_true] at this
  rw [s178_e]
  simp only [s178_0, s178_11, e1, Option.bind_some, Option.toList_some, Option.toList_none, List.cons_append, List.nil_append, true_or, or_true, if_true, if_false, i10, i01, Bool.false_eq_true]
  refine e2.trans ?_
  simp only [s178_43, s178_52, e3, Option.bind_some, Option.toList_some, Option.toList_none, List.cons_append, List.nil_append, true_or, or_true, if_true, if_false, i10, i01, Bool.false_eq_true]
  exact this
theorem nr_neg {x1 x2 : Int32} {v4 : IV} : exec d 179 4 [vR 7 0, vI x1, vI x2, vI (-1), v4] [] σ = some (some (vI 0), σ) := by
  have m1 : (-1 : Int32) < 0 := by decide
  rw [s179_4, if_pos m1, s179_28, if_pos m1, s179_32]
theorem nr_scan {k v w : Nat} {x1 x2 : Int32} {v4 : IV} (hk : k < 3) (hv : v ≤ 1000) (hw : w ≤ 1000) (h : ar σ 43 0 k = nI v) (he : x2 - x1 + nI k = nI w) : exec d 179 4 [vR 7 0, vI x1, vI x2, vI (nI k), v4] [] σ = if v = w then exec d 179 4 [vR 7 0, vI x1, vI x2, vI (nI k + -1), v4] [] σ else exec d 179 34 [vR 7 0, vI x1, vI x2, vI (nI k), v4] [] σ := by
  have e1 : (nI v = nI w) = (v = w) := eqN (by omega) (by omega)
  have l0 : ¬ nI k < 0 := by rw [lt0N (by omega)]; exact id
  rw [s179_4, if_neg l0]
  by_cases c : v = w
  · rw [if_pos c]
    simp only [s179_8, s179_14, s179_22, oob_nI hk (by decide), clN (show k ≤ 100000 by omega), h, he, e1.trans (eq_true c), Option.bind_some, Option.toList_some, Option.toList_none, List.cons_append, List.nil_append, true_or, or_true, if_true, if_false, i10, i01, Bool.false_eq_true]
  · rw [if_neg c]
    simp only [s179_8, s179_14, s179_28, oob_nI hk (by decide), clN (show k ≤ 100000 by omega), h, he, e1.trans (eq_false c), l0, Option.bind_some, Option.toList_some, Option.toList_none, List.cons_append, List.nil_append, true_or, or_true, if_true, if_false, i10, i01, Bool.false_eq_true]
theorem nr_head {k v : Nat} {x1 x2 : Int32} {v4 : IV} (hk : k < 3) (h : ar σ 43 0 k = nI v) : exec d 179 34 [vR 7 0, vI x1, vI x2, vI (nI k), v4] [] σ = exec d 179 49 [vR 7 0, vI x1, vI x2, vI (nI k), vI (nI (k + 1))] [] (se σ 43 0 k (nI (v + 1))) := by
  simp only [s179_34, s179_41, s179_44, oob_nI hk (by decide), clN (show k ≤ 100000 by omega), h, add1N, Option.bind_some, Option.toList_some, Option.toList_none, List.cons_append, List.nil_append, true_or, or_true, if_true, if_false, i10, i01, Bool.false_eq_true]
theorem nr_inc {k v r : Nat} {x2 x3 : Int32} (hk : k + 1 < r) (hr : r ≤ 3) (h : ar σ 43 0 k = nI v) : exec d 179 49 [vR 7 0, vI (nI r), vI x2, vI x3, vI (nI (k + 1))] [] σ = exec d 179 49 [vR 7 0, vI (nI r), vI x2, vI x3, vI (nI (k + 1 + 1))] [] (se σ 43 0 (k + 1) (nI (v + 1))) := by
  have e1 : nI (k + 1) - 1 = nI k := by rw [show (1 : Int32) = nI 1 from rfl, pk_sub (by omega), Nat.add_sub_cancel]
  rw [s179_49, if_pos (ltn hk (by omega))]
  simp only [s179_55, s179_70, s179_73, e1, oob_nI (show k < 3 by omega) (by decide), clN (show k ≤ 100000 by omega), oob_nI (show k + 1 < 3 by omega) (by decide), clN (show k + 1 ≤ 100000 by omega), h, add1N, Option.bind_some, Option.toList_some, Option.toList_none, List.cons_append, List.nil_append, true_or, or_true, if_true, if_false, i10, i01, Bool.false_eq_true]
theorem nr_end {r : Nat} {x2 x3 : Int32} : exec d 179 49 [vR 7 0, vI (nI r), vI x2, vI x3, vI (nI r)] [] σ = some (some (vI 1), σ) := by
  rw [s179_49, if_neg nlt, s179_79]
theorem m_nextRow {N : Nat} {row : List Nat} (hN : N ≤ 15) (hr3 : row.length ≤ 3) (hv : Vr N 0 row) (hrow : RowAt σ 43 row) : ∃ σ', call d 179 [vR 7 0, vI (nI row.length), vI (nI N)] σ = some (some (vI (if (nxt N row).isSome = true then 1 else 0)), σ') ∧ (∀ row', nxt N row = some row' → RowAt σ' 43 row') ∧ Ag (fun x q => x = 43 ∧ q = 0) σ σ' := by
  have a1 : nI 0 + (-1) = -1 := by decide
  have a2 : nI 1 + (-1) = nI 0 := by decide
  have a3 : nI 2 + (-1) = nI 1 := by decide
  have q1 : nI 1 - 1 = nI 0 := by decide
  have q2 : nI 2 - 1 = nI 1 := by decide
  have q3 : nI 3 - 1 = nI 2 := by decide
  have q0 : nI 0 - 1 = -1 := by decide
  match row, hr3, hv, hrow with
  | [], _, _, _ =>
    refine ⟨σ, ?_, fun row' h => (by cases h), Ag.rf⟩
    rw [show (nxt N []).isSome = false from rfl, List.length_nil, s179_e, s179_0, q0, nr_neg]
    rfl
  | [i], _, hv, hrow =>
    have hi : i < N := by have := hv.2.1; exact this
    have r0 : ar σ 43 0 0 = nI i := hrow 0 i rfl
    have e1 : nI N - nI 1 + nI 0 = nI (N - 1) := by rw [pk_sub (by omega), addN]; rfl
    have en0 : nxt N [i] = if i + 1 < N then some [i + 1] else none := rfl
    rw [show [i].length = 1 from rfl, s179_e, s179_0, q1, nr_scan (by omega) (by omega) (by omega) r0 e1]
    by_cases c : i + 1 < N
    · rw [en0, if_pos c, if_neg (by omega), nr_head (by omega) r0, nr_end]
      refine ⟨_, rfl, fun row' h k x hk => ?_, Ag.sw ⟨rfl, rfl⟩⟩
      cases h
      match k, hk with
      | 0, hk => cases hk; simp only [ar_sw_t, ar_sw_s, se_def, sw_sw, ne_eq, not_false_eq_true, Nat.reduceEqDiff, upd_s]
    · rw [en0, if_neg c, if_pos (by omega), a1, nr_neg]
      exact ⟨σ, rfl, fun row' h => (by cases h), Ag.rf⟩
  | [i, j], _, hv, hrow =>
    have hi : i + 1 < N := hv.2.1
    have hij : i + 1 ≤ j := hv.2.2.1
    have hj : j < N := hv.2.2.2.1
    have r0 : ar σ 43 0 0 = nI i := hrow 0 i rfl
    have r1 : ar σ 43 0 1 = nI j := hrow 1 j rfl
    have e1 : nI N - nI 2 + nI 1 = nI (N - 1) := by rw [pk_sub (by omega), addN]; congr 1; omega
    have e1' : nI N - nI 2 + nI 0 = nI (N - 2) := by rw [pk_sub (by omega), addN]; rfl
    have en0 : nxt N [i, j] = if j + 1 < N then some [i, j + 1] else (if i + 1 + 1 < N then some [i + 1, i + 1 + 1] else none) := by
      by_cases c : j + 1 < N
      · simp [nxt, c]
      · simp [nxt, c, List.range'_succ]
    rw [show [i, j].length = 2 from rfl, s179_e, s179_0, q2, nr_scan (by omega) (by omega) (by omega) r1 e1]
    by_cases c : j + 1 < N
    · rw [en0, if_pos c, if_neg (by omega), nr_head (by omega) r1, nr_end]
      refine ⟨_, rfl, fun row' h k x hk => ?_, Ag.sw ⟨rfl, rfl⟩⟩
      cases h
      match k, hk with
      | 0, hk => cases hk; simp only [ar_sw_t, ar_sw_s, se_def, sw_sw, ne_eq, not_false_eq_true, Nat.reduceEqDiff, upd_n]; exact r0
      | 1, hk => cases hk; simp only [ar_sw_t, ar_sw_s, se_def, sw_sw, ne_eq, not_false_eq_true, Nat.reduceEqDiff, upd_s]
    · rw [en0, if_neg c, if_pos (by omega), a2, nr_scan (by omega) (by omega) (by omega) r0 e1']
      by_cases c' : i + 1 + 1 < N
      · rw [if_pos c', if_neg (by omega), nr_head (by omega) r0, nr_inc (v := i + 1) (by omega) (by omega) (by simp only [ar_sw_t, ar_sw_s, se_def, sw_sw, ne_eq, not_false_eq_true, Nat.reduceEqDiff, upd_s]), nr_end]
        refine ⟨_, rfl, fun row' h k x hk => ?_, (Ag.sw ⟨rfl, rfl⟩).tr (Ag.sw ⟨rfl, rfl⟩)⟩
        cases h
        match k, hk with
        | 0, hk => cases hk; simp only [ar_sw_t, ar_sw_s, se_def, sw_sw, ne_eq, not_false_eq_true, Nat.reduceEqDiff, upd_n, upd_s]
        | 1, hk => cases hk; simp only [ar_sw_t, ar_sw_s, se_def, sw_sw, ne_eq, not_false_eq_true, Nat.reduceEqDiff, upd_s]
      · rw [if_neg c', if_pos (by omega), a1, nr_neg]
        exact ⟨σ, rfl, fun row' h => (by cases h), Ag.rf⟩
  | [i, j, k], _, hv, hrow =>
    have hi : i + 2 < N := hv.2.1
    have hij : i + 1 ≤ j := hv.2.2.1
    have hj : j + 1 < N := hv.2.2.2.1
    have hjk : j + 1 ≤ k := hv.2.2.2.2.1
    have hk : k < N := hv.2.2.2.2.2.1
    have r0 : ar σ 43 0 0 = nI i := hrow 0 i rfl
    have r1 : ar σ 43 0 1 = nI j := hrow 1 j rfl
    have r2 : ar σ 43 0 2 = nI k := hrow 2 k rfl
    have e1 : nI N - nI 3 + nI 2 = nI (N - 1) := by rw [pk_sub (by omega), addN]; congr 1; omega
    have e1' : nI N - nI 3 + nI 1 = nI (N - 2) := by rw [pk_sub (by omega), addN]; congr 1; omega
    have e1'' : nI N - nI 3 + nI 0 = nI (N - 3) := by rw [pk_sub (by omega), addN]; rfl
    have en0 : nxt N [i, j, k] = if k + 1 < N then some [i, j, k + 1] else (if j + 1 + 1 < N then some [i, j + 1, j + 1 + 1] else (if i + 1 + 2 < N then some [i + 1, i + 1 + 1, i + 1 + 1 + 1] else none)) := by
      by_cases c : k + 1 < N
      · simp [nxt, c]
      · by_cases c' : j + 1 + 1 < N
        · simp [nxt, c, c', List.range'_succ]
        · simp [nxt, c, c', List.range'_succ]
    rw [show [i, j, k].length = 3 from rfl, s179_e, s179_0, q3, nr_scan (by omega) (by omega) (by omega) r2 e1]
    by_cases c : k + 1 < N
    · rw [en0, if_pos c, if_neg (by omega), nr_head (by omega) r2, nr_end]
      refine ⟨_, rfl, fun row' h k' x hk' => ?_, Ag.sw ⟨rfl, rfl⟩⟩
      cases h
      match k', hk' with
      | 0, hk => cases hk; simp only [ar_sw_t, ar_sw_s, se_def, sw_sw, ne_eq, not_false_eq_true, Nat.reduceEqDiff, upd_n]; exact r0
      | 1, hk => cases hk; simp only [ar_sw_t, ar_sw_s, se_def, sw_sw, ne_eq, not_false_eq_true, Nat.reduceEqDiff, upd_n]; exact r1
      | 2, hk => cases hk; simp only [ar_sw_t, ar_sw_s, se_def, sw_sw, ne_eq, not_false_eq_true, Nat.reduceEqDiff, upd_s]
    · rw [en0, if_neg c, if_pos (by omega), a3, nr_scan (by omega) (by omega) (by omega) r1 e1']
      by_cases c' : j + 1 + 1 < N
      · rw [if_pos c', if_neg (by omega), nr_head (by omega) r1, nr_inc (v := j + 1) (by omega) (by omega) (by simp only [ar_sw_t, ar_sw_s, se_def, sw_sw, ne_eq, not_false_eq_true, Nat.reduceEqDiff, upd_s]), nr_end]
        refine ⟨_, rfl, fun row' h k' x hk' => ?_, (Ag.sw ⟨rfl, rfl⟩).tr (Ag.sw ⟨rfl, rfl⟩)⟩
        cases h
        match k', hk' with
        | 0, hk => cases hk; simp only [ar_sw_t, ar_sw_s, se_def, sw_sw, ne_eq, not_false_eq_true, Nat.reduceEqDiff, upd_n]; exact r0
        | 1, hk => cases hk; simp only [ar_sw_t, ar_sw_s, se_def, sw_sw, ne_eq, not_false_eq_true, Nat.reduceEqDiff, upd_n, upd_s]
        | 2, hk => cases hk; simp only [ar_sw_t, ar_sw_s, se_def, sw_sw, ne_eq, not_false_eq_true, Nat.reduceEqDiff, upd_s]
      · rw [if_neg c', if_pos (by omega), a2, nr_scan (by omega) (by omega) (by omega) r0 e1'']
        by_cases c'' : i + 1 + 2 < N
        · rw [if_pos c'', if_neg (by omega), nr_head (by omega) r0, nr_inc (v := i + 1) (by omega) (by omega) (by simp only [ar_sw_t, ar_sw_s, se_def, sw_sw, ne_eq, not_false_eq_true, Nat.reduceEqDiff, upd_s]), nr_inc (v := i + 1 + 1) (by omega) (by omega) (by simp only [ar_sw_t, ar_sw_s, se_def, sw_sw, ne_eq, not_false_eq_true, Nat.reduceEqDiff, upd_s]), nr_end]
          refine ⟨_, rfl, fun row' h k' x hk' => ?_, ((Ag.sw ⟨rfl, rfl⟩).tr (Ag.sw ⟨rfl, rfl⟩)).tr (Ag.sw ⟨rfl, rfl⟩)⟩
          cases h
          match k', hk' with
          | 0, hk => cases hk; simp only [ar_sw_t, ar_sw_s, se_def, sw_sw, ne_eq, not_false_eq_true, Nat.reduceEqDiff, upd_n, upd_s]
          | 1, hk => cases hk; simp only [ar_sw_t, ar_sw_s, se_def, sw_sw, ne_eq, not_false_eq_true, Nat.reduceEqDiff, upd_n, upd_s]
          | 2, hk => cases hk; simp only [ar_sw_t, ar_sw_s, se_def, sw_sw, ne_eq, not_false_eq_true, Nat.reduceEqDiff, upd_s]
        · rw [if_neg c'', if_pos (by omega), a1, nr_neg]
          exact ⟨σ, rfl, fun row' h => (by cases h), Ag.rf⟩
end CB

/-! Rings and lines: what walking from house to house comes to. -/
theorem hole : ∀ (n : Nat) (x : Nat → Nat), (∀ k, k ≤ n → x k < n) → ∃ i j, i < j ∧ j ≤ n ∧ x i = x j
  | 0, x, h => absurd (h 0 (Nat.le_refl 0)) (Nat.not_lt_zero _)
  | n + 1, x, h => by
    by_cases c : ∃ i, i ≤ n ∧ x i = x (n + 1)
    · obtain ⟨i, hi, he⟩ := c
      exact ⟨i, n + 1, by omega, Nat.le_refl _, he⟩
    · have c' : ∀ i, i ≤ n → x i ≠ x (n + 1) := fun i hi he => c ⟨i, hi, he⟩
      have hl := h (n + 1) (Nat.le_refl _)
      obtain ⟨i, j, h1, h2, h3⟩ := hole n (fun k => if x (n + 1) < x k then x k - 1 else x k) (fun k hk => by
        have h4 := h k (by omega)
        have h5 := c' k hk
        show (if x (n + 1) < x k then x k - 1 else x k) < n
        split <;> omega)
      refine ⟨i, j, h1, by omega, ?_⟩
      have h4 := c' i (by omega)
      have h5 := c' j (by omega)
      have h6 : (if x (n + 1) < x i then x i - 1 else x i) = (if x (n + 1) < x j then x j - 1 else x j) := h3
      split at h6 <;> split at h6 <;> omega
def it (F : Nat → Option Nat) : Nat → Nat → Option Nat
  | 0, a => some a
  | k + 1, a => (it F k a).bind F
section PU
variable {F : Nat → Option Nat} {n : Nat}
theorem it_add : ∀ (j i a : Nat), it F (i + j) a = (it F i a).bind (it F j)
  | 0, i, a => by
    rw [Nat.add_zero]
    cases h : it F i a <;> rfl
  | j + 1, i, a => by
    rw [← Nat.add_assoc, it, it_add j i a]
    cases h : it F i a <;> rfl
theorem it_lt (hv : ∀ a b, F a = some b → b < n) : ∀ (k a b : Nat), a < n → it F k a = some b → b < n
  | 0, a, b, ha, h => by cases h; exact ha
  | k + 1, a, b, ha, h => by
    rw [it] at h
    cases hk : it F k a with
    | none => rw [hk] at h; cases h
    | some c => rw [hk] at h; exact hv c b h
theorem it_some {k j a b : Nat} (h : it F k a = some b) (hj : j ≤ k) : ∃ c, it F j a = some c := by
  cases hc : it F j a with
  | some c => exact ⟨c, rfl⟩
  | none =>
    have := it_add (F := F) (k - j) j a
    rw [show j + (k - j) = k by omega, h, hc] at this
    cases this
theorem it_mul {k a : Nat} (h : it F k a = some a) : ∀ t, it F (k * t) a = some a
  | 0 => rfl
  | t + 1 => by rw [Nat.mul_succ, it_add, it_mul h t]; exact h
theorem it_mod {k a : Nat} (h : it F k a = some a) (j : Nat) : it F (j % k) a = it F j a := by
  have e : j = k * (j / k) + j % k := (Nat.div_add_mod j k).symm
  rw [e, it_add, it_mul h]
  simp only [Option.bind_some, Nat.mul_add_mod, Nat.mod_mod]
theorem it_ph (hv : ∀ a b, F a = some b → b < n) {a : Nat} (ha : a < n) (h : ∀ j, 1 ≤ j → j ≤ n → it F j a ≠ some a) : it F (n + 1) a ≠ some a := by
  intro hn
  have hs : ∀ j, j ≤ n + 1 → ∃ c, it F j a = some c := fun j hj => it_some hn hj
  obtain ⟨i, j, h1, h2, h3⟩ := hole n (fun k => (it F k a).getD 0) (fun k hk => by
    obtain ⟨c, hc⟩ := hs k (by omega)
    show (it F k a).getD 0 < n
    rw [hc]
    exact it_lt hv k a c ha hc)
  obtain ⟨ci, hci⟩ := hs i (by omega)
  obtain ⟨cj, hcj⟩ := hs j (by omega)
  have h4 : (it F i a).getD 0 = (it F j a).getD 0 := h3
  rw [hci, hcj] at h4
  have h5 : ci = cj := h4
  have e1 := it_add (F := F) (n + 1 - j) j a
  rw [show j + (n + 1 - j) = n + 1 by omega, hn, hcj] at e1
  have e2 := it_add (F := F) (n + 1 - j) i a
  rw [hci, h5] at e2
  simp only [Option.bind_some] at e1 e2
  rw [← e1] at e2
  exact h _ (by omega) (by omega) e2
/-- the reference's way round a ring -/
def mrg (F : Nat → Option Nat) (a : Nat) : Nat → Nat → Option Nat → Nat
  | _, _, none => 0
  | 0, s, some b => if b = a then (if 2 < s then s else 0) else 0
  | m + 1, s, some b => if b = a then (if 2 < s then s else 0) else mrg F a m (s + 1) (F b)
theorem mrg_rgo (hv : ∀ a b, F a = some b → b < n) {a : Nat} (ha : a < n) : ∀ (m s x : Nat), 1 ≤ s → s + m = n + 1 → it F (s - 1) a = some x → (∀ j, 1 ≤ j → j < s → it F j a ≠ some a) → mrg F a m s (F x) = rgo F a m s x
  | 0, s, x, h1, hs, hx, hj => by
    have h2 := it_ph hv ha (fun j h1 h2 => hj j h1 (by omega))
    have h3 : it F (n + 1) a = F x := by
      rw [show n + 1 = s - 1 + 1 by omega, it, hx]; rfl
    rw [h3] at h2
    rw [rgo]
    cases hF : F x with
    | none => rfl
    | some b =>
      rw [hF] at h2
      rw [mrg, if_neg (fun z => h2 (by rw [z]))]
  | m + 1, s, x, h1, hs, hx, hj => by
    rw [rgo]
    have h3 : it F s a = F x := by
      rw [show s = s - 1 + 1 by omega, it, hx]; rfl
    cases hF : F x with
    | none => rfl
    | some b =>
      dsimp only
      rw [mrg]
      by_cases c : b = a
      · rw [if_pos c, if_pos c]
        by_cases c2 : 2 < s
        · rw [if_pos c2, if_pos (by omega)]
        · rw [if_neg c2, if_neg (by omega)]
      · rw [if_neg c, if_neg c]
        refine mrg_rgo hv ha m (s + 1) b (by omega) (by omega) ?_ (fun j h1 h2 => ?_)
        · rw [Nat.add_sub_cancel, h3, hF]
        · by_cases e : j = s
          · rw [e, h3, hF]; intro z; cases z; exact c rfl
          · exact hj j h1 (by omega)
theorem mrg_rsz (hv : ∀ a b, F a = some b → b < n) {a : Nat} (ha : a < n) : mrg F a n 1 (F a) = rsz F n a :=
  mrg_rgo hv ha n 1 a (by omega) (by omega) rfl (fun j h1 h2 => by omega)
/-- a ring of k houses from a -/
def isR (F : Nat → Option Nat) (n a k : Nat) : Prop := 3 ≤ k ∧ k ≤ n ∧ it F k a = some a ∧ ∀ j, 1 ≤ j → j < k → it F j a ≠ some a
theorem rgo_pos {a : Nat} : ∀ {m s x : Nat}, 1 ≤ s → s + m = n + 1 → it F (s - 1) a = some x → (∀ j, 1 ≤ j → j < s → it F j a ≠ some a) → 0 < rgo F a m s x → isR F n a (rgo F a m s x)
  | 0, s, x, _, _, _, _, h => by rw [rgo] at h; omega
  | m + 1, s, x, h1, hs, hx, hj, h => by
    have h3 : it F s a = F x := by
      rw [show s = s - 1 + 1 by omega, it, hx]; rfl
    rw [rgo] at h ⊢
    cases hF : F x with
    | none => rw [hF] at h; exact absurd h (Nat.lt_irrefl 0)
    | some b =>
      rw [hF] at h
      dsimp only at h ⊢
      by_cases c : b = a
      · rw [if_pos c] at h ⊢
        by_cases c2 : 3 ≤ s
        · rw [if_pos c2]
          exact ⟨c2, by omega, by rw [h3, hF, c], hj⟩
        · rw [if_neg c2] at h; omega
      · rw [if_neg c] at h ⊢
        refine rgo_pos (by omega) (by omega) (by rw [Nat.add_sub_cancel, h3, hF]) (fun j h1 h2 => ?_) h
        by_cases e : j = s
        · rw [e, h3, hF]; intro z; cases z; exact c rfl
        · exact hj j h1 (by omega)
theorem rsz_pos {a : Nat} (h : 0 < rsz F n a) : isR F n a (rsz F n a) := rgo_pos (by omega) (by omega) rfl (fun j h1 h2 => by omega) h
theorem rgo_isR {a k : Nat} (hk : isR F n a k) : ∀ {m s x : Nat}, 1 ≤ s → s + m = n + 1 → s ≤ k → it F (s - 1) a = some x → rgo F a m s x = k
  | 0, s, x, h1, hs, hsk, _ => by have := hk.2.1; omega
  | m + 1, s, x, h1, hs, hsk, hx => by
    have h3 : it F s a = F x := by
      rw [show s = s - 1 + 1 by omega, it, hx]; rfl
    rw [rgo]
    by_cases e : s = k
    · have h4 := hk.2.2.1
      rw [← e, h3] at h4
      rw [h4]
      dsimp only
      rw [if_pos rfl, if_pos (by have := hk.1; omega), e]
    · obtain ⟨b, hb⟩ := it_some hk.2.2.1 hsk
      have h4 := hk.2.2.2 s h1 (by omega)
      rw [h3] at hb h4
      rw [hb]
      dsimp only
      rw [if_neg (fun z => h4 (by rw [hb, z]))]
      exact rgo_isR hk (by omega) (by omega) (by omega) (by rw [Nat.add_sub_cancel, h3, hb])
theorem isR_rsz {a k : Nat} (hk : isR F n a k) : rsz F n a = k := rgo_isR hk (by omega) (by omega) (by have := hk.1; omega) rfl
/-- who is in a ring is so from each of its houses -/
theorem isR_it {a b k j : Nat} (hk : isR F n a k) (hb : it F j a = some b) : isR F n b k := by
  obtain ⟨h3, hn, hka, hmin⟩ := hk
  have hkb : it F k b = some b := by
    have e1 := it_add (F := F) k j a
    have e2 := it_add (F := F) j k a
    rw [hka] at e2
    rw [hb] at e1
    simp only [Option.bind_some] at e1 e2
    rw [← e1, Nat.add_comm, e2, hb]
  refine ⟨h3, hn, hkb, fun i hi1 hi2 hib => ?_⟩
  obtain ⟨t, ht⟩ : ∃ t, j ≤ k * t := ⟨j, by
    have := Nat.mul_le_mul_right j (show 1 ≤ k by omega)
    omega⟩
  have hba : it F (k * t - j) b = some a := by
    have e := it_add (F := F) (k * t - j) j a
    rw [show j + (k * t - j) = k * t by omega, it_mul hka, hb] at e
    exact e.symm
  have e1 := it_add (F := F) (k * t - j) i b
  have e2 := it_add (F := F) i (k * t - j) b
  rw [hib] at e1
  rw [hba] at e2
  simp only [Option.bind_some] at e1 e2
  rw [hba, Nat.add_comm, e2] at e1
  exact hmin i hi1 hi2 e1
theorem tb_set {B x y : Nat} : (B ||| 2 ^ x).testBit y = (B.testBit y || decide (x = y)) := by
  rw [Nat.testBit_or, Nat.testBit_two_pow]
theorem cn_full {p : Nat → Bool} : ∀ {m : Nat}, cn p m = m → ∀ x, x < m → p x = true
  | 0, _, x, hx => by omega
  | m + 1, h, x, hx => by
    rw [cn] at h
    have hle := cn_le (p := p) m
    by_cases c : p m = true
    · rw [if_pos c] at h
      by_cases e : x = m
      · rw [e]; exact c
      · exact cn_full (m := m) (by omega) x (by omega)
    · rw [if_neg c] at h; omega
theorem cn_set {B x : Nat} (hx : B.testBit x = false) : ∀ m, x < m → cn (fun y => (B ||| 2 ^ x).testBit y) m = cn (fun y => B.testBit y) m + 1
  | 0, h => by omega
  | m + 1, h => by
    rw [cn, cn]
    by_cases e : x = m
    · have e1 : cn (fun y => (B ||| 2 ^ x).testBit y) m = cn (fun y => B.testBit y) m := cn_ext (fun y hy => by
        rw [tb_set, decide_eq_false (by omega), Bool.or_false])
      rw [e1, if_pos (by rw [tb_set, e, decide_eq_true rfl, Bool.or_true]), if_neg (by rw [← e, hx]; exact Bool.false_ne_true)]
    · have ih := cn_set hx m (by omega)
      have e2 : (B ||| 2 ^ x).testBit m = B.testBit m := by rw [tb_set, decide_eq_false e, Bool.or_false]
      rw [ih, e2]
      split <;> rfl
theorem cn_0 : ∀ m, cn (fun y => (0 : Nat).testBit y) m = 0
  | 0 => rfl
  | m + 1 => by rw [cn, Nat.zero_testBit, if_neg Bool.false_ne_true, cn_0 m]
theorem rbit_tb : ∀ (m B : Nat) (o : Option Nat) (y : Nat), (rbit F m B o).testBit y = true ↔ B.testBit y = true ∨ ∃ j x, j < m ∧ o = some x ∧ it F j x = some y
  | 0, B, o, y => by
    have e : rbit F 0 B o = B := by cases o <;> rfl
    rw [e]
    exact ⟨Or.inl, fun h => h.elim id (fun ⟨j, x, hj, _⟩ => by omega)⟩
  | m + 1, B, none, y => by
    rw [rbit]
    exact ⟨Or.inl, fun h => h.elim id (fun ⟨j, x, hj, hx, _⟩ => by cases hx)⟩
  | m + 1, B, some x, y => by
    rw [rbit, rbit_tb m, tb_set, Bool.or_eq_true, decide_eq_true_eq]
    constructor
    · rintro ((h | h) | ⟨j, x', hj, hx', hy⟩)
      · exact Or.inl h
      · exact Or.inr ⟨0, x, by omega, rfl, by rw [h]; rfl⟩
      · refine Or.inr ⟨j + 1, x, by omega, rfl, ?_⟩
        have e := it_add (F := F) j 1 x
        rw [Nat.add_comm] at e
        rw [e]
        have e1 : it F 1 x = some x' := hx'
        rw [e1]
        exact hy
    · rintro (h | ⟨j, x', hj, hx', hy⟩)
      · exact Or.inl (Or.inl h)
      · cases hx'
        cases j with
        | zero => left; right; cases hy; rfl
        | succ j =>
          right
          have e := it_add (F := F) j 1 x
          rw [Nat.add_comm, hy] at e
          cases h1 : it F 1 x with
          | none => rw [h1] at e; cases e
          | some c => rw [h1] at e; exact ⟨j, c, by omega, h1, e.symm⟩
/-- the least house of its ring -/
def led (F : Nat → Option Nat) (n a : Nat) : Prop := 0 < rsz F n a ∧ ∀ j b, 1 ≤ j → j < rsz F n a → it F j a = some b → a < b
theorem crs_tb {y : Nat} : ∀ a, (crs F n a).2.testBit y = true → ∃ b, b < a ∧ 0 < rsz F n b ∧ ∃ j, it F j b = some y
  | 0, h => by
    have : (0 : Nat).testBit y = true := h
    rw [Nat.zero_testBit] at this
    cases this
  | a + 1, h => by
    rw [crs] at h
    split at h
    · rename_i hc
      have h' : ((crs F n a).2 ||| rbit F n 0 (some a)).testBit y = true := h
      rw [Nat.testBit_or, Bool.or_eq_true] at h'
      rcases h' with h' | h'
      · obtain ⟨b, h1, h2⟩ := crs_tb a h'
        exact ⟨b, by omega, h2⟩
      · rcases (rbit_tb n 0 (some a) y).mp h' with h' | ⟨j, x, hj, hx, hy⟩
        · rw [Nat.zero_testBit] at h'; cases h'
        · cases hx
          exact ⟨a, by omega, hc.2, j, hy⟩
    · obtain ⟨b, h1, h2⟩ := crs_tb a h
      exact ⟨b, by omega, h2⟩
theorem crs_tb' {y : Nat} : ∀ a b, b < a → 0 < rsz F n b → (∃ j, j < n ∧ it F j b = some y) → (crs F n a).2.testBit y = true
  | 0, b, hb, _, _ => by omega
  | a + 1, b, hb, hr, hj => by
    rw [crs]
    by_cases hba : b < a
    · have ih := crs_tb' a b hba hr hj
      split
      · show ((crs F n a).2 ||| rbit F n 0 (some a)).testBit y = true
        rw [Nat.testBit_or, ih, Bool.true_or]
      · exact ih
    · have e : b = a := by omega
      subst e
      split
      · obtain ⟨j, hj1, hj2⟩ := hj
        show ((crs F n b).2 ||| rbit F n 0 (some b)).testBit y = true
        rw [Nat.testBit_or, (rbit_tb n 0 (some b) y).mpr (Or.inr ⟨j, b, hj1, rfl, hj2⟩), Bool.or_true]
      · rename_i hc
        have hb1 : (crs F n b).2.testBit b = true := by
          cases hbb : (crs F n b).2.testBit b with
          | true => rfl
          | false => exact absurd ⟨hbb, hr⟩ hc
        obtain ⟨c, hc1, hc2, i, hi⟩ := crs_tb b hb1
        obtain ⟨j, hj1, hj2⟩ := hj
        have hR := rsz_pos hc2
        have hy : it F (i + j) c = some y := by rw [it_add, hi]; exact hj2
        rw [← it_mod hR.2.2.1] at hy
        exact crs_tb' b c hc1 hc2 ⟨(i + j) % rsz F n c, Nat.lt_of_lt_of_le (Nat.mod_lt _ (by have := hR.1; omega)) hR.2.1, hy⟩
theorem led_crs {a : Nat} : led F n a ↔ ((crs F n a).2.testBit a = false ∧ 0 < rsz F n a) := by
  constructor
  · rintro ⟨h1, h2⟩
    refine ⟨?_, h1⟩
    cases hb : (crs F n a).2.testBit a with
    | false => rfl
    | true =>
      obtain ⟨b, hba, hbr, j, hj⟩ := crs_tb a hb
      have hR := rsz_pos h1
      have hRb := isR_it (rsz_pos hbr) hj
      have hk : rsz F n b = rsz F n a := (isR_rsz hRb).symm
      have hRb' := rsz_pos hbr
      -- b is met from a
      obtain ⟨t, ht⟩ : ∃ t, j ≤ rsz F n b * t := ⟨j, by
        have := Nat.mul_le_mul_right j (show 1 ≤ rsz F n b by omega)
        omega⟩
      have hab : it F (rsz F n b * t - j) a = some b := by
        have e := it_add (F := F) (rsz F n b * t - j) j b
        rw [show j + (rsz F n b * t - j) = rsz F n b * t by omega, it_mul hRb'.2.2.1, hj] at e
        exact e.symm
      rw [← it_mod hR.2.2.1] at hab
      have hm : (rsz F n b * t - j) % rsz F n a < rsz F n a := Nat.mod_lt _ h1
      have h0 : 1 ≤ (rsz F n b * t - j) % rsz F n a := by
        apply Classical.byContradiction
        intro hz
        have hz0 : (rsz F n b * t - j) % rsz F n a = 0 := by omega
        rw [hz0] at hab
        have : a = b := by cases hab; rfl
        omega
      have := h2 _ b h0 hm hab
      omega
  · rintro ⟨h1, h2⟩
    refine ⟨h2, fun j b hj1 hj2 hb => ?_⟩
    have hR := rsz_pos h2
    apply Classical.byContradiction
    intro hlt
    have hne : b ≠ a := fun z => hR.2.2.2 j hj1 hj2 (by rw [hb, z])
    have hRb := isR_it hR hb
    have hrb : rsz F n b = rsz F n a := isR_rsz hRb
    have hba : it F (rsz F n a - j) b = some a := by
      have e := it_add (F := F) (rsz F n a - j) j a
      rw [show j + (rsz F n a - j) = rsz F n a by omega, hR.2.2.1, hb] at e
      exact e.symm
    have := crs_tb' (F := F) (n := n) (y := a) a b (by omega) (by omega) ⟨rsz F n a - j, by have := hR.2.1; omega, hba⟩
    rw [h1] at this
    cases this
theorem crs_cn : ∀ a, (crs F n a).1 = cn (fun b => @decide (led F n b) (Classical.propDecidable _)) a
  | 0 => rfl
  | a + 1 => by
    rw [crs, cn]
    by_cases c : led F n a
    · rw [if_pos (led_crs.mp c), if_pos (@decide_eq_true _ (Classical.propDecidable _) c)]
      show (crs F n a).1 + 1 = _
      rw [crs_cn a]
    · rw [if_neg (fun z => c (led_crs.mpr z)), if_neg (fun z => c (@of_decide_eq_true _ (Classical.propDecidable _) z)), crs_cn a]
end PU

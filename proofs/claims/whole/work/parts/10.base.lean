/-! Pure rows for reading the equations: numbers, stores. -/
theorem oob_nI {j n : Nat} (h : j < n) (hn : n ≤ 1000) : oob (nI j) n = false := by
  have h2 : vp_in (nI j) n := vp_in_nI h (by omega)
  unfold oob
  simp only [Bool.or_eq_false_iff, decide_eq_false_iff_not]
  exact ⟨fun z => h2 (Or.inl z), fun z => h2 (Or.inr z)⟩
theorem clN {j : Nat} (h : j ≤ 100000) : (nI j).toNatClampNeg = j := nI_clamp (by omega)
theorem ltN {a b : Nat} (ha : a ≤ 100000) (hb : b ≤ 100000) : (nI a < nI b) = (a < b) := propext (nI_ltI (by omega) (by omega))
theorem leN {a b : Nat} (ha : a ≤ 100000) (hb : b ≤ 100000) : (nI a ≤ nI b) = (a ≤ b) := propext (nI_leI (by omega) (by omega))
theorem eqN {a b : Nat} (ha : a ≤ 100000) (hb : b ≤ 100000) : (nI a = nI b) = (a = b) := propext (nI_eq (by omega) (by omega))
theorem lt0N {a : Nat} (ha : a ≤ 100000) : (nI a < 0) = False := eq_false (nI_pos (by omega))
theorem n1N {a : Nat} (ha : a ≤ 100000) : (nI a = -1) = False := by
  apply eq_false
  intro h
  have := nI_pos (n := a) (by omega)
  rw [h] at this
  exact this (by decide)
theorem addN (a b : Nat) : nI a + nI b = nI (a + b) := nI_add a b
theorem add1N (a : Nat) : nI a + 1 = nI (a + 1) := nI_1 a
theorem mul6N (a : Nat) : nI a * 6 = nI (6 * a) := by rw [show (6 : Int32) = nI 6 from rfl, pk_mul, Nat.mul_comm]
theorem mul6N' (a : Nat) : 6 * nI a = nI (6 * a) := by rw [show (6 : Int32) = nI 6 from rfl, pk_mul]
theorem mul3N' (a : Nat) : 3 * nI a = nI (3 * a) := by rw [show (3 : Int32) = nI 3 from rfl, pk_mul]
theorem n0 : (0 : Int32) = nI 0 := rfl
/-- of a house or none -/
def en : Option Nat → Int32
  | none => -1
  | some b => nI b
theorem en_none : en none = -1 := rfl
theorem en_some {b : Nat} : en (some b) = nI b := rfl
theorem en_m1 {o : Option Nat} (h : ∀ b, o = some b → b ≤ 100000) : (en o = -1) = (o = none) := by
  cases o with
  | none => simp [en]
  | some b => rw [en_some, n1N (h b rfl)]; simp
theorem en_eq {o : Option Nat} {a : Nat} (ha : a ≤ 100000) (h : ∀ b, o = some b → b ≤ 100000) : (en o = nI a) = (o = some a) := by
  cases o with
  | none =>
    apply propext
    constructor
    · intro z
      have := n1N ha
      rw [← z] at this
      exact (this ▸ rfl : False).elim
    · intro z; cases z
  | some b => rw [en_some, eqN (h b rfl) ha]; simp
/-! stores -/
theorem se_def (σ : St) (t q j : Nat) (x : Int32) : se σ t q j x = sw σ t q (upd (ar σ t q) j x) := rfl
theorem ar_sw_t {σ : St} {t q t' q' : Nat} {f : Nat → Int32} (h : t' ≠ t) : ar (sw σ t q f) t' q' = ar σ t' q' := by
  unfold sw ar
  simp only [if_neg h]
theorem ar_sw_q {σ : St} {t q t' q' : Nat} {f : Nat → Int32} (h : q' ≠ q) : ar (sw σ t q f) t' q' = ar σ t' q' := by
  unfold sw ar
  simp only [if_neg h, ite_self]
theorem ar_sw_s {σ : St} {t q : Nat} {f : Nat → Int32} : ar (sw σ t q f) t q = f := by
  unfold sw ar
  simp only [if_pos]
theorem sw_sw {σ : St} {t q : Nat} {f g : Nat → Int32} : sw (sw σ t q f) t q g = sw σ t q g := by
  unfold sw
  refine Prod.ext ?_ rfl
  funext t' q'
  by_cases h : t' = t <;> by_cases h2 : q' = q <;> simp [h, h2]
theorem sw_self {σ : St} {t q : Nat} : sw σ t q (ar σ t q) = σ := by
  unfold sw ar
  refine Prod.ext ?_ rfl
  funext t' q'
  by_cases h : t' = t <;> by_cases h2 : q' = q <;> simp [h, h2]
theorem sw_id {σ : St} {t q : Nat} {f : Nat → Int32} (h : f = ar σ t q) : sw σ t q f = σ := by rw [h, sw_self]
theorem ar_sh' {σ : St} {t q : Nat} {x : Int64} : ar (sh σ x) t q = ar σ t q := rfl
theorem hs_sw' {σ : St} {t q : Nat} {f : Nat → Int32} : hs (sw σ t q f) = hs σ := rfl
theorem hs_sh {σ : St} {x : Int64} : hs (sh σ x) = x := rfl
theorem sh_sh {σ : St} {x y : Int64} : sh (sh σ x) y = sh σ y := rfl
theorem scL_sw {σ : St} {t q : Nat} {f : Nat → Int32} : scL (sw σ t q f) = scL σ := rfl
theorem scF_sw {σ : St} {t q : Nat} {f : Nat → Int32} : scF (sw σ t q f) = scF σ := rfl
/-- two stores that agree but at some places -/
def Ag (S : Nat → Nat → Prop) (σ σ' : St) : Prop := (∀ t q, ¬ S t q → ar σ' t q = ar σ t q) ∧ σ'.2 = σ.2
theorem Ag.rf {S : Nat → Nat → Prop} {σ : St} : Ag S σ σ := ⟨fun _ _ _ => rfl, rfl⟩
theorem Ag.tr {S : Nat → Nat → Prop} {σ σ' σ'' : St} (h1 : Ag S σ σ') (h2 : Ag S σ' σ'') : Ag S σ σ'' := ⟨fun t q h => (h2.1 t q h).trans (h1.1 t q h), h2.2.trans h1.2⟩
theorem Ag.mono {S S' : Nat → Nat → Prop} {σ σ' : St} (h : Ag S σ σ') (hs : ∀ t q, S t q → S' t q) : Ag S' σ σ' := ⟨fun t q hn => h.1 t q (fun z => hn (hs t q z)), h.2⟩
theorem Ag.sw {S : Nat → Nat → Prop} {σ : St} {t q : Nat} {f : Nat → Int32} (h : S t q) : Ag S σ (sw σ t q f) := ⟨fun t' q' hn => by
  by_cases e : t' = t
  · subst e
    exact ar_sw_q (fun e2 => hn (by rw [e2]; exact h))
  · exact ar_sw_t e, rfl⟩
theorem upd_s {f : Nat → Int32} {k : Nat} {x : Int32} : upd f k x k = x := pk_us
theorem upd_n {f : Nat → Int32} {k j : Nat} {x : Int32} (h : j ≠ k) : upd f k x j = f j := pk_un h
theorem upd_if {f : Nat → Int32} {k j : Nat} {x : Int32} : upd f k x j = if j = k then x else f j := rfl
theorem i10 : ((1 : Int32) = 0) = False := by decide
theorem i01 : ((0 : Int32) = 1) = False := by decide
/-! Which one a house fronts, and what hangs on it. -/
def bet (K A : Nat → Int32) (a b : Nat) : Option Nat → Prop
  | none => True
  | some c => if K a = 3 then A (6 * a + b) < A (6 * a + c) else A (6 * a + c) < A (6 * a + b)
noncomputable def pkf (K W A : Nat → Int32) (a : Nat) : Nat → Option Nat
  | 0 => none
  | b + 1 => @ite _ (0 < A (6 * a + b) ∧ W (6 * a + b) = 0 ∧ bet K A a b (pkf K W A a b)) (Classical.propDecidable _) (some b) (pkf K W A a b)
theorem pkf_t {K W A : Nat → Int32} {a b : Nat} (h1 : 0 < A (6 * a + b)) (h2 : W (6 * a + b) = 0) (h3 : bet K A a b (pkf K W A a b)) : pkf K W A a (b + 1) = some b := by
  rw [pkf, if_pos ⟨h1, h2, h3⟩]
theorem pkf_f {K W A : Nat → Int32} {a b : Nat} (h : ¬ (0 < A (6 * a + b) ∧ W (6 * a + b) = 0 ∧ bet K A a b (pkf K W A a b))) : pkf K W A a (b + 1) = pkf K W A a b := by
  rw [pkf, if_neg h]
noncomputable def pick (n : Nat) (K W A : Nat → Int32) (a : Nat) : Option Nat := pkf K W A a n
theorem pkf_lt {K W A : Nat → Int32} {a : Nat} : ∀ {b c : Nat}, pkf K W A a b = some c → c < b ∧ 0 < A (6 * a + c) ∧ W (6 * a + c) = 0
  | 0, c, h => by cases h
  | b + 1, c, h => by
    by_cases hc : 0 < A (6 * a + b) ∧ W (6 * a + b) = 0 ∧ bet K A a b (pkf K W A a b)
    · rw [pkf, if_pos hc] at h
      cases h
      exact ⟨by omega, hc.1, hc.2.1⟩
    · rw [pkf, if_neg hc] at h
      obtain ⟨h1, h2⟩ := pkf_lt h
      exact ⟨by omega, h2⟩
theorem pick_lt {n : Nat} {K W A : Nat → Int32} {a c : Nat} (h : pick n K W A a = some c) : c < n := (pkf_lt h).1
/-- the anger at the one picked so far -/
def av (A : Nat → Int32) (a : Nat) : Option Nat → Int32
  | none => 0
  | some c => A (6 * a + c)
def cn (p : Nat → Bool) : Nat → Nat
  | 0 => 0
  | b + 1 => if p b = true then cn p b + 1 else cn p b
def sm (f : Nat → Int32) : Nat → Int32
  | 0 => 0
  | b + 1 => sm f b + f b
theorem cn_le {p : Nat → Bool} : ∀ n, cn p n ≤ n
  | 0 => Nat.le_refl _
  | b + 1 => by have := cn_le (p := p) b; rw [cn]; split <;> omega
theorem cn_ext {p p' : Nat → Bool} : ∀ {n : Nat}, (∀ a, a < n → p a = p' a) → cn p n = cn p' n
  | 0, _ => rfl
  | b + 1, h => by rw [cn, cn, h b (by omega), cn_ext (fun a ha => h a (by omega))]
theorem sm_ext {f f' : Nat → Int32} : ∀ {n : Nat}, (∀ a, a < n → f a = f' a) → sm f n = sm f' n
  | 0, _ => rfl
  | b + 1, h => by rw [sm, sm, h b (by omega), sm_ext (fun a ha => h a (by omega))]
def fbit (F : Nat → Option Nat) (a : Nat) : Nat → Nat
  | 0 => 0
  | b + 1 => if F b = some a then fbit F a b ||| 2 ^ b else fbit F a b
def star (F : Nat → Option Nat) (a : Nat) : Bool := match F a with
  | some b => decide (F b = some a)
  | none => false
def rgo (F : Nat → Option Nat) (a : Nat) : Nat → Nat → Nat → Nat
  | 0, _, _ => 0
  | m + 1, s, x => match F x with
    | none => 0
    | some b => if b = a then (if 3 ≤ s then s else 0) else rgo F a m (s + 1) b
def rsz (F : Nat → Option Nat) (n a : Nat) : Nat := rgo F a n 1 a
theorem rgo_le {F : Nat → Option Nat} {a : Nat} : ∀ (m s x : Nat), rgo F a m s x ≤ s + m
  | 0, _, _ => by rw [rgo]; omega
  | m + 1, s, x => by
    rw [rgo]
    cases F x with
    | none => simp only; omega
    | some b =>
      simp only
      split
      · split <;> omega
      · have := rgo_le (F := F) (a := a) m (s + 1) b; omega
theorem bits_or : ∀ B, B < 64 → ∀ b, b < 6 → nI B ||| ((1 : Int32) <<< (nI b &&& 31)) = nI (B ||| 2 ^ b) := by decide +kernel
theorem bits_at : ∀ B, B < 64 → ∀ b, b < 6 → (nI B >>> (nI b &&& 31)) &&& 1 = (if B.testBit b then 1 else 0) := by decide +kernel
theorem bits_lt : ∀ B, B < 64 → ∀ b, b < 6 → B ||| 2 ^ b < 64 := by decide +kernel
theorem fbit_lt {F : Nat → Option Nat} {a : Nat} : ∀ {n : Nat}, n ≤ 6 → fbit F a n < 64
  | 0, _ => by show 0 < 64; omega
  | b + 1, h => by
    have := fbit_lt (F := F) (a := a) (n := b) (by omega)
    rw [fbit]
    split
    · exact bits_lt _ this b (by omega)
    · exact this
def vgo (F : Nat → Option Nat) : Nat → Nat → Option Nat → List Nat
  | 0, _, _ => []
  | _ + 1, _, none => []
  | m + 1, B, some x => if B.testBit x = true then [] else x :: vgo F m (B ||| 2 ^ x) (F x)
def rbit (F : Nat → Option Nat) : Nat → Nat → Option Nat → Nat
  | 0, B, _ => B
  | _ + 1, B, none => B
  | m + 1, B, some x => rbit F m (B ||| 2 ^ x) (F x)
theorem down0 {Pr : Nat → Prop} (n : Nat) (h : ∀ b, b < n → Pr (b + 1) → Pr b) (hn : Pr n) : Pr 0 := by
  have : ∀ m, m ≤ n → Pr (n - m) := by
    intro m
    induction m with
    | zero => intro _; exact hn
    | succ m ih =>
      intro hm
      have e : n - (m + 1) + 1 = n - m := by omega
      exact h _ (by omega) (by rw [e]; exact ih (by omega))
  have h2 := this n (Nat.le_refl n)
  rw [Nat.sub_self] at h2
  exact h2
theorem ltn {b n : Nat} (h : b < n) (hn : n ≤ 100000) : nI b < nI n := nI_lt h (by omega)
theorem nlt {n : Nat} : ¬ nI n < nI n := fun z => Int32.lt_irrefl z
theorem bits_oo : ∀ B, B < 64 → ∀ C, C < 64 → nI B ||| nI C = nI (B ||| C) := by decide +kernel
theorem bits_oolt : ∀ B, B < 64 → ∀ C, C < 64 → B ||| C < 64 := by decide +kernel
theorem rbit_lt {F : Nat → Option Nat} {n : Nat} (h6 : n ≤ 6) (hv : ∀ a b, F a = some b → b < n) : ∀ (m B : Nat) (o : Option Nat), B < 64 → (∀ x, o = some x → x < n) → rbit F m B o < 64
  | 0, B, o, hB, _ => by cases o <;> exact hB
  | m + 1, B, none, hB, _ => hB
  | m + 1, B, some x, hB, ho => rbit_lt h6 hv m _ _ (bits_lt B hB x (by have := ho x rfl; omega)) (hv x)
def lts (o : Option Nat) (a : Nat) : Bool := match o with
  | some b => decide (a < b)
  | none => false
theorem en_lts {o : Option Nat} {a n : Nat} (ha : a ≤ 1000) (hn : n ≤ 1000) (ho : ∀ b, o = some b → b < n) : (nI a < en o) = (lts o a = true) := by
  cases o with
  | none =>
    apply propext
    constructor
    · intro z
      exact absurd (Int32.lt_trans z (by decide : (-1 : Int32) < 0)) (nI_pos (by omega))
    · intro z; cases z
  | some b =>
    rw [en_some, ltN (by omega) (by have := ho b rfl; omega)]
    simp [lts]
def crs (F : Nat → Option Nat) (n : Nat) : Nat → Nat × Nat
  | 0 => (0, 0)
  | a + 1 => if (crs F n a).2.testBit a = false ∧ 0 < rsz F n a then ((crs F n a).1 + 1, (crs F n a).2 ||| rbit F n 0 (some a)) else crs F n a
theorem crs_lt {F : Nat → Option Nat} {n : Nat} (h6 : n ≤ 6) (hv : ∀ a b, F a = some b → b < n) : ∀ a, a ≤ n → (crs F n a).2 < 64 ∧ (crs F n a).1 ≤ a
  | 0, _ => ⟨by show 0 < 64; omega, Nat.le_refl _⟩
  | a + 1, h => by
    obtain ⟨h1, h2⟩ := crs_lt h6 hv a (by omega)
    rw [crs]
    split
    · exact ⟨bits_oolt _ h1 _ (rbit_lt h6 hv _ _ _ (by omega) (fun x hx => by cases hx; omega)), by show _ + 1 ≤ _; omega⟩
    · exact ⟨h1, by omega⟩
def lir (F : Nat → Option Nat) (n : Nat) : Nat → Nat → Option Nat
  | 0, _ => none
  | m + 1, a => if 0 < rsz F n a then some a else lir F n m (a + 1)
def lop (p : Nat) : Nat := [0, 0, 0, 0, 0, 1, 1, 1, 1, 2, 2, 2, 3, 3, 4].getD p 0
def hip (p : Nat) : Nat := [1, 2, 3, 4, 5, 2, 3, 4, 5, 3, 4, 5, 4, 5, 5].getD p 0
theorem ro60 : ∀ p, p < 15 → roF 60 p = nI (lop p) := by decide +kernel
theorem ro61 : ∀ p, p < 15 → roF 61 p = nI (hip p) := by decide +kernel
theorem lop_lt : ∀ p, p < 15 → lop p < hip p ∧ hip p < 6 := by decide +kernel
theorem vgo_len {F : Nat → Option Nat} : ∀ (m B : Nat) (o : Option Nat), (vgo F m B o).length ≤ m
  | 0, _, o => by cases o <;> exact Nat.le_refl _
  | m + 1, _, none => Nat.zero_le _
  | m + 1, B, some x => by
    rw [vgo]
    split
    · exact Nat.zero_le _
    · rw [List.length_cons]
      have := vgo_len (F := F) m (B ||| 2 ^ x) (F x)
      omega
theorem vgo_lt {F : Nat → Option Nat} {n : Nat} (hv : ∀ a b, F a = some b → b < n) : ∀ (m B : Nat) (o : Option Nat), (∀ x, o = some x → x < n) → ∀ y ∈ vgo F m B o, y < n
  | 0, _, o, _, y, h => by cases o <;> cases h
  | m + 1, _, none, _, y, h => by cases h
  | m + 1, B, some x, ho, y, h => by
    rw [vgo] at h
    split at h
    · cases h
    · rcases List.mem_cons.mp h with rfl | h
      · exact ho _ rfl
      · exact vgo_lt hv m _ _ (hv x) y h
theorem tI {x y : Int32} {k : Int} (hy : y.toInt = k) : (x.toInt = k) = (x = y) := by
  rw [← hy]
  exact propext Int32.toInt_inj
theorem en_inj {o o' : Option Nat} (h : ∀ b, o = some b → b ≤ 100000) (h' : ∀ b, o' = some b → b ≤ 100000) : (en o = en o') = (o = o') := by
  cases o' with
  | none => rw [en_none, en_m1 h]
  | some b => rw [en_some, en_eq (h' b rfl) h]
theorem pkf_ext {K K' W W' A A' : Nat → Int32} {a : Nat} (hK : K a = K' a) : ∀ {n : Nat}, (∀ b, b < n → W (6 * a + b) = W' (6 * a + b)) → (∀ b, b < n → A (6 * a + b) = A' (6 * a + b)) → pkf K W A a n = pkf K' W' A' a n
  | 0, _, _ => rfl
  | b + 1, hW, hA => by
    have ih := pkf_ext (n := b) hK (fun c hc => hW c (by omega)) (fun c hc => hA c (by omega))
    have hbet : bet K A a b (pkf K W A a b) = bet K' A' a b (pkf K' W' A' a b) := by
      rw [ih]
      cases hp : pkf K' W' A' a b with
      | none => rfl
      | some c =>
        have hc := (pkf_lt hp).1
        simp only [bet, hK, hA b (by omega), hA c (by omega)]
    by_cases hc : 0 < A (6 * a + b) ∧ W (6 * a + b) = 0 ∧ bet K A a b (pkf K W A a b)
    · rw [pkf_t hc.1 hc.2.1 hc.2.2, pkf_t (by rw [← hA b (by omega)]; exact hc.1) (by rw [← hW b (by omega)]; exact hc.2.1) (by rw [← hbet]; exact hc.2.2)]
    · rw [pkf_f hc, pkf_f (fun z => hc (by rw [hA b (by omega), hW b (by omega), hbet]; exact z)), ih]
theorem pick_ext {n : Nat} {K K' W W' A A' : Nat → Int32} {a : Nat} (hK : K a = K' a) (hW : ∀ b, b < n → W (6 * a + b) = W' (6 * a + b)) (hA : ∀ b, b < n → A (6 * a + b) = A' (6 * a + b)) : pick n K W A a = pick n K' W' A' a := pkf_ext hK hW hA
theorem pick_0 {n : Nat} {K W A : Nat → Int32} {a : Nat} (h : ∀ b, b < n → A (6 * a + b) = 0) : pick n K W A a = none := by
  cases hp : pick n K W A a with
  | none => rfl
  | some c =>
    obtain ⟨h1, h2, -⟩ := pkf_lt hp
    rw [h c h1] at h2
    exact absurd h2 (by decide)
def grw (k : Int32) (s : Prop) [Decidable s] : Int32 := if k = 1 then 1 else if k = 4 then (if s then 2 else 1) else 0
def chg (K : Nat → Int32) (F : Nat → Option Nat) (a b : Nat) : Int32 := if K a = 2 then -2 else if F a = some b then (if F b = some a then 1 else 0) + grw (K a) (F b = some a) else (if F b = some a then 1 else 0) - 1
def bd (x : Int32) : Int32 := if 0 < (if x < 20 then x else 20) then (if x < 20 then x else 20) else 0
/-- a morning: the angers behind it -/
noncomputable def mor (n : Nat) (K W A : Nat → Int32) : Nat → Int32 := fun j => if j / 6 < n ∧ j % 6 < n ∧ j / 6 ≠ j % 6 then bd (A j + chg K (pick n K W A) (j / 6) (j % 6)) else A j
/-- how many windows turn on it -/
noncomputable def trn (n : Nat) (K W A : Nat → Int32) : Nat := cn (fun a => !decide (pick n K W (mor n K W A) a = pick n K W A a)) n
noncomputable def morN (n : Nat) (K W : Nat → Int32) : Nat → (Nat → Int32) → (Nat → Int32)
  | 0, A => A
  | m + 1, A => morN n K W m (mor n K W A)
/-- a square that stands at q: houses, kinds, walls, angers, and windows that front as these say -/
def Lv (σ : St) (q n : Nat) (K W A : Nat → Int32) : Prop := ar σ 5 q 7 = nI n ∧ ar σ 11 q = K ∧ ar σ 17 q = W ∧ ar σ 16 q = A ∧ ∀ a, a < n → ar σ 13 q a = en (pick n K W A a)
def SA (q : Nat) : Nat → Nat → Prop := fun t q' => q' = q ∧ (t = 16 ∨ t = 13)

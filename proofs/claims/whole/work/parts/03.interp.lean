/-! A reader of the code as a function: values, stores, one instruction, runs with fuel. -/
abbrev IV : Type := Int32 ⊕ Int64 ⊕ (Nat × Nat) ⊕ Unit
def vI (x : Int32) : IV := .inl x
def vL (x : Int64) : IV := .inr (.inl x)
def vR (t q : Nat) : IV := .inr (.inr (.inl (t, q)))
def vN : IV := .inr (.inr (.inr ()))
/-- a store: arrays and objects by kind and number, the one long, the script -/
abbrev St : Type := (Nat → Nat → Nat → Int32) × Int64 × Nat × (Nat → Int32)
def ar (σ : St) (t q : Nat) : Nat → Int32 := σ.1 t q
def sw (σ : St) (t q : Nat) (f : Nat → Int32) : St := (fun t' q' => if t' = t then (if q' = q then f else σ.1 t' q') else σ.1 t' q', σ.2)
def hs (σ : St) : Int64 := σ.2.1
def sh (σ : St) (x : Int64) : St := (σ.1, x, σ.2.2)
def scL (σ : St) : Nat := σ.2.2.1
def scF (σ : St) : Nat → Int32 := σ.2.2.2
def oob (i : Int32) (n : Nat) : Bool := decide (i < 0) || decide (n ≤ i.toNatClampNeg)
def lenT : Nat → Nat
  | 10 => 38
  | 11 => 6
  | 12 => 6
  | 13 => 6
  | 14 => 6
  | 15 => 6
  | 16 => 36
  | 17 => 36
  | 18 => 8
  | 19 => 8
  | 20 => 8
  | 21 => 3
  | 22 => 3
  | 24 => 6
  | 26 => 7
  | 30 => 38
  | 31 => 6
  | 32 => 6
  | 33 => 6
  | 34 => 6
  | 35 => 36
  | 36 => 36
  | 37 => 6
  | 38 => 6
  | 39 => 6
  | 40 => 36
  | 41 => 36
  | 42 => 3
  | 43 => 3
  | 44 => 24
  | 45 => 126
  | 46 => 21
  | 47 => 7
  | 48 => 6
  | 49 => 6
  | 50 => 6
  | 51 => 36
  | 52 => 36
  | 53 => 24
  | _ => 0
def roF (t j : Nat) : Int32 := if t = 60 then [0, 0, 0, 0, 0, 1, 1, 1, 1, 2, 2, 2, 3, 3, 4].getD j 0 else if t = 61 then [1, 2, 3, 4, 5, 2, 3, 4, 5, 3, 4, 5, 4, 5, 5].getD j 0 else [104, 116, 109, 115, 102].getD j 0
def lenS (σ : St) (t : Nat) : Nat := if t < 60 then lenT t else if t = 63 then 5 else if t = 64 then scL σ else if t = 62 then 0 else 15
def isA (t : Nat) : Bool := Nat.blt 0 (lenT t) || (Nat.beq t 60 || (Nat.beq t 61 || (Nat.beq t 63 || Nat.beq t 64)))
def rdA (σ : St) (t q j : Nat) : Int32 := if t < 60 then ar σ t q j else if t = 64 then scF σ j else roF t j
def se (σ : St) (t q j : Nat) (x : Int32) : St := sw σ t q (upd (ar σ t q) j x)
def op2 (f : Int32 → Int32 → Int32) (ls stk : List IV) : Option (List IV × List IV) := match stk with
  | .inl y :: .inl x :: r => some (ls, vI (f x y) :: r)
  | _ => none
def opL (f : Int64 → Int64 → Int64) (ls stk : List IV) : Option (List IV × List IV) := match stk with
  | .inr (.inl y) :: .inr (.inl x) :: r => some (ls, vL (f x y) :: r)
  | _ => none
def ldI (ls stk : List IV) (k : Nat) : Option (List IV × List IV) := match ls[k]? with
  | some (.inl x) => some (ls, vI x :: stk)
  | _ => none
def ldR (ls stk : List IV) (k : Nat) : Option (List IV × List IV) := match ls[k]? with
  | some (.inr (.inr (.inl (t, q)))) => some (ls, vR t q :: stk)
  | _ => none
def ldL (ls stk : List IV) (k : Nat) : Option (List IV × List IV) := match ls[k]? with
  | some (.inr (.inl x)) => match ls[k + 1]? with
    | some (.inr (.inr (.inr ()))) => some (ls, vL x :: stk)
    | _ => none
  | _ => none
def stI (ls stk : List IV) (k : Nat) : Option (List IV × List IV) := match stk with
  | .inl x :: r => bif Nat.blt k ls.length then some (ls.set k (vI x), r) else none
  | _ => none
def stR (ls stk : List IV) (k : Nat) : Option (List IV × List IV) := match stk with
  | .inr (.inr (.inl (t, q))) :: r => bif Nat.blt k ls.length then some (ls.set k (vR t q), r) else none
  | _ => none
def stL (ls stk : List IV) (k : Nat) : Option (List IV × List IV) := match stk with
  | .inr (.inl x) :: r => bif Nat.blt (k + 1) ls.length then some ((ls.set k (vL x)).set (k + 1) vN, r) else none
  | _ => none
def icI (ls stk : List IV) (k : Nat) (n : Int) : Option (List IV × List IV) := match ls[k]? with
  | some (.inl x) => some (ls.set k (vI (x + Int32.ofInt n)), stk)
  | _ => none
def cat1 : IV → Bool
  | .inr (.inl _) => false
  | .inr (.inr (.inr _)) => false
  | _ => true
/-- what touches the locals and the stack alone, and never fails -/
def alu (i : Instr) (ls stk : List IV) : Option (List IV × List IV) := match i with
  | .iconst n => some (ls, vI (Int32.ofInt n) :: stk)
  | .bipush n => some (ls, vI (Int8.ofInt n).toInt32 :: stk)
  | .sipush n => some (ls, vI (Int16.ofInt n).toInt32 :: stk)
  | .lconst n => some (ls, vL (Int64.ofNat (n : Nat)) :: stk)
  | .iload_n k => ldI ls stk k
  | .iload k => ldI ls stk k
  | .lload_n k => ldL ls stk k
  | .lload k => ldL ls stk k
  | .aload_n k => ldR ls stk k
  | .aload k => ldR ls stk k
  | .istore_n k => stI ls stk k
  | .istore k => stI ls stk k
  | .lstore_n k => stL ls stk k
  | .lstore k => stL ls stk k
  | .astore_n k => stR ls stk k
  | .astore k => stR ls stk k
  | .iinc k n => icI ls stk k n
  | .iadd => op2 (fun x y => x + y) ls stk
  | .isub => op2 (fun x y => x - y) ls stk
  | .imul => op2 (fun x y => x * y) ls stk
  | .iand => op2 (fun x y => x &&& y) ls stk
  | .ior => op2 (fun x y => x ||| y) ls stk
  | .ishl => op2 (fun x y => x <<< (y &&& 31)) ls stk
  | .ishr => op2 (fun x y => x >>> (y &&& 31)) ls stk
  | .ladd => opL (fun x y => x + y) ls stk
  | .lmul => opL (fun x y => x * y) ls stk
  | .land => opL (fun x y => x &&& y) ls stk
  | .lcmp => match stk with
    | .inr (.inl y) :: .inr (.inl x) :: r => some (ls, vI (lg_cmp x y) :: r)
    | _ => none
  | .i2l => match stk with
    | .inl x :: r => some (ls, vL x.toInt64 :: r)
    | _ => none
  | .l2i => match stk with
    | .inr (.inl x) :: r => some (ls, vI x.toInt32 :: r)
    | _ => none
  | .i2b => match stk with
    | .inl x :: r => some (ls, vI x.toInt8.toInt32 :: r)
    | _ => none
  | .i2c => match stk with
    | .inl x :: r => some (ls, vI (x.toUInt32 % 65536).toInt32 :: r)
    | _ => none
  | .dup => match stk with
    | a :: r => bif cat1 a then some (ls, a :: a :: r) else none
    | _ => none
  | .dup2 => match stk with
    | a :: b :: r => bif cat1 a && cat1 b then some (ls, a :: b :: a :: b :: r) else none
    | _ => none
  | .pop => match stk with
    | a :: r => bif cat1 a then some (ls, r) else none
    | _ => none
  | _ => none
/-- division: may fail -/
def dvs (i : Instr) (stk : List IV) : Option (List IV) := match i with
  | .idiv => match stk with
    | .inl y :: .inl x :: r => if y = 0 then none else some (vI (x / y) :: r)
    | _ => none
  | .irem => match stk with
    | .inl y :: .inl x :: r => if y = 0 then none else some (vI (x - x / y * y) :: r)
    | _ => none
  | .lrem => match stk with
    | .inr (.inl y) :: .inr (.inl x) :: r => if y = 0 then none else some (vL (x - x / y * y) :: r)
    | _ => none
  | _ => none
/-- fields, statics, constants -/
def fld (i : Instr) (ex : List Nat) (stk : List IV) (σ : St) : Option (List IV × St) := match i with
  | .getfield _ => match ex, stk with
    | 0 :: T :: k :: _, .inr (.inr (.inl (t, q))) :: r => bif Nat.beq t T then some (vI (ar σ T q k) :: r, σ) else none
    | 1 :: T :: _ :: _ :: _ :: T' :: z :: _, .inr (.inr (.inl (t, q))) :: r => bif Nat.beq t T then some (vR T' (match z with | 0 => q | z + 1 => z) :: r, σ) else none
    | 2 :: T :: _, .inr (.inr (.inl (t, _))) :: r => bif Nat.beq t T then some (vL (hs σ) :: r, σ) else none
    | 5 :: 0 :: _, .inr (.inr (.inl (62, _))) :: r => some (vR 63 0 :: r, σ)
    | 5 :: 1 :: _, .inr (.inr (.inl (62, _))) :: r => some (vI 0 :: r, σ)
    | _, _ => none
  | .putfield _ => match ex, stk with
    | 0 :: T :: k :: _, .inl x :: .inr (.inr (.inl (t, q))) :: r => bif Nat.beq t T then some (r, se σ T q k x) else none
    | 2 :: T :: _, .inr (.inl x) :: .inr (.inr (.inl (t, _))) :: r => bif Nat.beq t T then some (r, sh σ x) else none
    | 3 :: T :: k :: _, .inl x :: .inr (.inr (.inl (t, q))) :: r => bif Nat.beq t T then (if x = 0 ∨ x = 1 then some (r, se σ T q k x) else none) else none
    | _, _ => none
  | .getstatic _ => match ex with
    | 0 :: v :: _ => some (vI (Int32.ofNat v) :: stk, σ)
    | 1 :: T :: _ => some (vR T 0 :: stk, σ)
    | _ => none
  | .ldc _ => match ex with
    | 0 :: v :: _ => some (vI (Int32.ofNat v) :: stk, σ)
    | 1 :: T :: _ => some (vR T 0 :: stk, σ)
    | _ => none
  | .ldc_w _ => match ex with
    | 0 :: v :: _ => some (vI (Int32.ofNat v) :: stk, σ)
    | _ => none
  | .ldc2_w _ => match ex with
    | v :: _ => some (vL (Int64.ofNat v) :: stk, σ)
    | _ => none
  | _ => none
/-- arrays -/
def arr (i : Instr) (stk : List IV) (σ : St) : Option (List IV × St) := match i with
  | .iaload => match stk with
    | .inl i :: .inr (.inr (.inl (t, q))) :: r => if oob i (lenS σ t) = true ∨ t = 63 then none else some (vI (rdA σ t q i.toNatClampNeg) :: r, σ)
    | _ => none
  | .baload => match stk with
    | .inl i :: .inr (.inr (.inl (63, _))) :: r => if oob i 5 = true then none else some (vI (roF 63 i.toNatClampNeg) :: r, σ)
    | _ => none
  | .iastore => match stk with
    | .inl x :: .inl i :: .inr (.inr (.inl (t, q))) :: r => if oob i (lenT t) = true then none else some (r, se σ t q i.toNatClampNeg x)
    | _ => none
  | .aaload => match stk with
    | .inl i :: .inr (.inr (.inl (23, _))) :: r => if oob i 6 = true then none else some (vR 24 i.toNatClampNeg :: r, σ)
    | .inl i :: .inr (.inr (.inl (25, _))) :: r => if oob i 6 = true then none else some (vR 26 i.toNatClampNeg :: r, σ)
    | _ => none
  | .arraylength => match stk with
    | .inr (.inr (.inl (t, _))) :: r => bif isA t then some (vI (nI (lenS σ t)) :: r, σ) else none
    | _ => none
  | _ => none
/-- library calls that are known: max, min, arraycopy of whole arrays -/
def lib (i : Instr) (ex : List Nat) (stk : List IV) (σ : St) : Option (List IV × St) := match i with
  | .invokestatic _ => match ex with
    | 20 :: _ => match stk with
      | .inl y :: .inl x :: r => bif Nat.ble r.length 4 then some (vI (if x < y then y else x) :: r, σ) else none
      | _ => none
    | 21 :: _ => match stk with
      | .inl y :: .inl x :: r => bif Nat.ble r.length 4 then some (vI (if y < x then y else x) :: r, σ) else none
      | _ => none
    | 22 :: _ => match stk with
      | .inl n :: .inl dp :: .inr (.inr (.inl (t2, q2))) :: .inl sp :: .inr (.inr (.inl (t1, q1))) :: r =>
        if dp = 0 ∧ sp = 0 ∧ n = nI (lenT t1) ∧ lenT t1 = lenT t2 ∧ lenT t1 ≠ 0 ∧ r.length ≤ 4 then some (r, sw σ t2 q2 (ar σ t1 q1)) else none
      | _ => none
    | _ => none
  | _ => none
def swF : List (Int × Int) → List Nat → Nat → Int → Nat
  | (a, _) :: ps, t :: ts, d, v => if v = a then t else swF ps ts d v
  | _, _, d, _ => d
def swT : Int → List Nat → Nat → Int → Nat
  | lo, t :: ts, d, v => if v = lo then t else swT (lo + 1) ts d v
  | _, [], d, _ => d
def cnd (k : ClassFile.Cond) (x y : Int32) : Bool := match k with
  | .eq => decide (x = y)
  | .ne => !decide (x = y)
  | .lt => decide (x < y)
  | .ge => decide (y ≤ x)
  | .gt => decide (y < x)
  | .le => decide (x ≤ y)
/-- jumps: where to, and the stack behind -/
def jmp (i : Instr) (ex : List Nat) (nx : Nat) (stk : List IV) : Option (Nat × List IV) := match i with
  | .goto _ => match ex with
    | t :: _ => some (t, stk)
    | _ => none
  | .ifCond k _ => match ex, stk with
    | t :: _, .inl x :: r => some (bif cnd k x 0 then t else nx, r)
    | _, _ => none
  | .if_icmp k _ => match ex, stk with
    | t :: _, .inl y :: .inl x :: r => some (bif cnd k x y then t else nx, r)
    | _, _ => none
  | .lookupswitch _ ps => match ex, stk with
    | d :: ts, .inl x :: r => some (swF ps.toList ts d x.toInt, r)
    | _, _ => none
  | .tableswitch _ lo _ _ => match ex, stk with
    | d :: ts, .inl x :: r => some (swT lo ts d x.toInt, r)
    | _, _ => none
  | _ => none
def exps : List IV → List IV
  | [] => []
  | .inr (.inl x) :: r => vL x :: vN :: exps r
  | v :: r => v :: exps r
def ent (n : Nat) (as : List IV) : List IV := exps as ++ List.replicate (n - (exps as).length) vN
def rcv (T : Nat) : List IV → Bool
  | .inr (.inr (.inl (t, _))) :: _ => Nat.beq t T
  | _ => false
/-- calls: which method, with what, what is left on the stack -/
def inv (i : Instr) (ex : List Nat) (stk : List IV) : Option (Nat × List IV × List IV) := match i with
  | .invokevirtual _ => match ex with
    | 10 :: k :: n :: _ :: _ :: T :: _ => bif Nat.ble n stk.length && (Nat.ble (stk.drop n).length 4 && rcv T (stk.take n).reverse) then some (k, (stk.take n).reverse, stk.drop n) else none
    | _ => none
  | .invokestatic _ => match ex with
    | 11 :: k :: n :: _ => bif Nat.ble n stk.length && Nat.ble (stk.drop n).length 4 then some (k, (stk.take n).reverse, stk.drop n) else none
    | _ => none
  | _ => none
/-- returns -/
def rtn (i : Instr) (ex : List Nat) (stk : List IV) : Option (Option IV) := match i with
  | .ireturn => match ex, stk with
    | 0 :: _, [.inl x] => some (some (vI x))
    | 1 :: _, [.inl x] => if x = 0 ∨ x = 1 then some (some (vI x)) else none
    | 2 :: _, [.inl x] => if x = 0 then some (some (vI x)) else none
    | _, _ => none
  | .lreturn => match stk with
    | [.inr (.inl x)] => some (some (vL x))
    | _ => none
  | .areturn => match stk with
    | [.inr (.inr (.inl (t, q)))] => some (some (vR t q))
    | _ => none
  | .return_ => match stk with
    | [] => some none
    | _ => none
  | _ => none
def lk : Nat → List Row → Option (Instr × Nat × List Nat)
  | _, [] => none
  | pc, r :: l => bif Nat.beq r.1 pc then some r.2 else lk pc l
def look (k pc : Nat) : Option (Instr × Nat × List Nat) := lk pc (codes.getD k [])
def mL (k : Nat) : Nat := maxLs.getD k 0
/-- one step but calls and returns: the next place, locals, stack, store -/
def one (k pc : Nat) (ls stk : List IV) (σ : St) (i : Instr) (nx : Nat) (ex : List Nat) : Option (Nat × List IV × List IV × St) :=
  match alu i ls stk with
  | some (ls', stk') => some (nx, ls', stk', σ)
  | none => match dvs i stk with
    | some stk' => some (nx, ls, stk', σ)
    | none => match fld i ex stk σ with
      | some (stk', σ') => some (nx, ls, stk', σ')
      | none => match arr i stk σ with
        | some (stk', σ') => some (nx, ls, stk', σ')
        | none => match lib i ex stk σ with
          | some (stk', σ') => some (nx, ls, stk', σ')
          | none => match jmp i ex nx stk with
            | some (pc', stk') => some (pc', ls, stk', σ)
            | none => none
def run : Nat → Nat → Nat → Nat → List IV → List IV → St → Option (Option IV × St)
  | _, 0, _, _, _, _, _ => none
  | d, n + 1, k, pc, ls, stk, σ => match look k pc with
    | none => none
    | some (i, nx, ex) => match one k pc ls stk σ i nx ex with
      | some (pc', ls', stk', σ') => run d n k pc' ls' stk' σ'
      | none => match rtn i ex stk with
        | some v => some (v, σ)
        | none => match inv i ex stk with
          | none => none
          | some (k', as, rest) => match d with
            | 0 => none
            | d' + 1 => bif Nat.ble (exps as).length (mL k') then (match run d' n k' 0 (ent (mL k') as) [] σ with
              | none => none
              | some (v, σ') => run (d' + 1) n k nx ls (v.toList ++ rest) σ') else none
theorem run_mono : ∀ (n d k pc : Nat) (ls stk : List IV) (σ : St) (r : Option IV × St), run d n k pc ls stk σ = some r → run d (n + 1) k pc ls stk σ = some r := by
  intro n
  induction n with
  | zero => intro d k pc ls stk σ r h; simp [run] at h
  | succ n ih =>
    intro d k pc ls stk σ r h
    rw [run] at h ⊢
    cases hl : look k pc with
    | none => rw [hl] at h; cases h
    | some x =>
      obtain ⟨i, nx, ex⟩ := x
      rw [hl] at h
      dsimp only at h ⊢
      cases ho : one k pc ls stk σ i nx ex with
      | some y =>
        obtain ⟨pc', ls', stk', σ'⟩ := y
        rw [ho] at h
        exact ih _ _ _ _ _ _ _ h
      | none =>
        rw [ho] at h
        dsimp only at h ⊢
        cases hr : rtn i ex stk with
        | some v => rw [hr] at h; exact h
        | none =>
          rw [hr] at h
          dsimp only at h ⊢
          cases hi : inv i ex stk with
          | none => rw [hi] at h; cases h
          | some z =>
            obtain ⟨k', as, rest⟩ := z
            rw [hi] at h
            cases d with
            | zero => cases h
            | succ d' =>
              dsimp only at h ⊢
              cases hb : Nat.ble (exps as).length (mL k') with
              | false => rw [hb] at h; cases h
              | true =>
                rw [hb] at h
                simp only [cond_true] at h ⊢
                cases hc : run d' n k' 0 (ent (mL k') as) [] σ with
                | none => rw [hc] at h; cases h
                | some w =>
                  obtain ⟨v, σ'⟩ := w
                  rw [hc] at h
                  rw [ih _ _ _ _ _ _ _ hc]
                  exact ih _ _ _ _ _ _ _ h
theorem run_le {n n' d k pc : Nat} {ls stk : List IV} {σ : St} {r : Option IV × St} (hn : n ≤ n') (h : run d n k pc ls stk σ = some r) : run d n' k pc ls stk σ = some r := by
  induction hn with
  | refl => exact h
  | step _ ih => exact run_mono _ _ _ _ _ _ _ _ ih
noncomputable def exec (d k pc : Nat) (ls stk : List IV) (σ : St) : Option (Option IV × St) := @dite _ (∃ r, ∃ n, run d n k pc ls stk σ = some r) (Classical.propDecidable _) (fun h => some (Classical.choose h)) (fun _ => none)
theorem exec_iff {d k pc : Nat} {ls stk : List IV} {σ : St} {r : Option IV × St} : exec d k pc ls stk σ = some r ↔ ∃ n, run d n k pc ls stk σ = some r := by
  unfold exec
  by_cases h : ∃ r, ∃ n, run d n k pc ls stk σ = some r
  · rw [dif_pos h]
    obtain ⟨n1, h1⟩ := Classical.choose_spec h
    constructor
    · intro e
      cases e
      exact ⟨n1, h1⟩
    · rintro ⟨n2, h2⟩
      have a := run_le (Nat.le_max_left n1 n2) h1
      have b := run_le (Nat.le_max_right n1 n2) h2
      rw [a] at b
      exact b
  · rw [dif_neg h]
    exact ⟨fun e => (by cases e), fun e => absurd ⟨r, e⟩ h⟩
theorem opt_ext {α : Type} {a b : Option α} (h : ∀ r, a = some r ↔ b = some r) : a = b := by
  cases a with
  | none =>
    cases b with
    | none => rfl
    | some y => exact absurd ((h y).mpr rfl) (by simp)
  | some x => exact ((h x).mp rfl).symm
noncomputable def call (d k : Nat) (as : List IV) (σ : St) : Option (Option IV × St) := exec d k 0 (ent (mL k) as) [] σ
theorem exec_step {d k pc k' pc' : Nat} {ls stk ls' stk' : List IV} {σ σ' : St} (h : ∀ n, run d (n + 1) k pc ls stk σ = run d n k' pc' ls' stk' σ') : exec d k pc ls stk σ = exec d k' pc' ls' stk' σ' := by
  apply opt_ext
  intro r
  rw [exec_iff, exec_iff]
  constructor
  · rintro ⟨n, hn⟩
    exact ⟨n, by rw [← h n]; exact run_mono _ _ _ _ _ _ _ _ hn⟩
  · rintro ⟨n, hn⟩
    exact ⟨n + 1, by rw [h n]; exact hn⟩
theorem exec_none {d k pc : Nat} {ls stk : List IV} {σ : St} (h : ∀ n, run d (n + 1) k pc ls stk σ = none) : exec d k pc ls stk σ = none := by
  apply opt_ext
  intro r
  rw [exec_iff]
  constructor
  · rintro ⟨n, hn⟩
    have := run_mono _ _ _ _ _ _ _ _ hn
    rw [h n] at this
    cases this
  · intro e
    cases e
theorem exec_some {d k pc : Nat} {ls stk : List IV} {σ : St} {r : Option IV × St} (h : ∀ n, run d (n + 1) k pc ls stk σ = some r) : exec d k pc ls stk σ = some r := exec_iff.mpr ⟨1, h 0⟩
section EX
variable {d k pc nx pc' : Nat} {ls stk ls' stk' : List IV} {σ σ' : St} {i : Instr} {ex : List Nat}
theorem e_one (hl : look k pc = some (i, nx, ex)) (h : one k pc ls stk σ i nx ex = some (pc', ls', stk', σ')) : exec d k pc ls stk σ = exec d k pc' ls' stk' σ' :=
  exec_step (fun n => by rw [run, hl]; dsimp only; rw [h])
theorem e_rtn {v : Option IV} (hl : look k pc = some (i, nx, ex)) (h : one k pc ls stk σ i nx ex = none) (hr : rtn i ex stk = some v) : exec d k pc ls stk σ = some (v, σ) :=
  exec_some (fun n => by rw [run, hl]; dsimp only; rw [h]; dsimp only; rw [hr])
theorem e_bad (hl : look k pc = some (i, nx, ex)) (h : one k pc ls stk σ i nx ex = none) (hr : rtn i ex stk = none) (hi : inv i ex stk = none) : exec d k pc ls stk σ = none :=
  exec_none (fun n => by rw [run, hl]; dsimp only; rw [h]; dsimp only; rw [hr]; dsimp only; rw [hi])
theorem e_inv {k' : Nat} {as rest : List IV} (hl : look k pc = some (i, nx, ex)) (h : one k pc ls stk σ i nx ex = none) (hr : rtn i ex stk = none) (hi : inv i ex stk = some (k', as, rest)) (hb : Nat.ble (exps as).length (mL k') = true) :
    exec (d + 1) k pc ls stk σ = (call d k' as σ).bind (fun r => exec (d + 1) k nx ls (r.1.toList ++ rest) r.2) := by
  have e : ∀ n, run (d + 1) (n + 1) k pc ls stk σ = match run d n k' 0 (ent (mL k') as) [] σ with
      | none => none
      | some (v, σ') => run (d + 1) n k nx ls (v.toList ++ rest) σ' := fun n => by
    rw [run, hl]
    dsimp only
    rw [h]
    dsimp only
    rw [hr]
    dsimp only
    rw [hi]
    dsimp only
    rw [hb]
    rfl
  apply opt_ext
  intro r
  constructor
  · intro hx
    obtain ⟨n, hn⟩ := exec_iff.mp hx
    have hn := run_mono _ _ _ _ _ _ _ _ hn
    rw [e n] at hn
    cases hc : run d n k' 0 (ent (mL k') as) [] σ with
    | none => rw [hc] at hn; cases hn
    | some w =>
      obtain ⟨v, σ'⟩ := w
      rw [hc] at hn
      have h1 : call d k' as σ = some (v, σ') := exec_iff.mpr ⟨n, hc⟩
      rw [h1]
      exact exec_iff.mpr ⟨n, hn⟩
  · intro hx
    cases hc : call d k' as σ with
    | none => rw [hc] at hx; cases hx
    | some w =>
      obtain ⟨v, σ'⟩ := w
      rw [hc] at hx
      obtain ⟨n1, h1⟩ := exec_iff.mp hc
      obtain ⟨n2, h2⟩ := exec_iff.mp hx
      refine exec_iff.mpr ⟨max n1 n2 + 1, ?_⟩
      rw [e, run_le (Nat.le_max_left n1 n2) h1]
      exact run_le (Nat.le_max_right n1 n2) h2
/-! what may fail, or goes two ways -/
theorem e_iald {i : Int32} {t q : Nat} {r : List IV} (hl : look k pc = some (.iaload, nx, ex)) : exec d k pc ls (vI i :: vR t q :: r) σ = if oob i (lenS σ t) = true ∨ t = 63 then none else exec d k nx ls (vI (rdA σ t q i.toNatClampNeg) :: r) σ := by
  by_cases h : oob i (lenS σ t) = true ∨ t = 63
  · rw [if_pos h]
    refine e_bad hl ?_ rfl rfl
    simp [one, alu, dvs, fld, arr, lib, jmp, vI, vR, h]
  · rw [if_neg h]
    refine e_one hl ?_
    simp [one, alu, dvs, fld, arr, vI, vR, h]
theorem e_bald {i : Int32} {q : Nat} {r : List IV} (hl : look k pc = some (.baload, nx, ex)) : exec d k pc ls (vI i :: vR 63 q :: r) σ = if oob i 5 = true then none else exec d k nx ls (vI (roF 63 i.toNatClampNeg) :: r) σ := by
  by_cases h : oob i 5 = true
  · rw [if_pos h]
    refine e_bad hl ?_ rfl rfl
    simp [one, alu, dvs, fld, arr, lib, jmp, vI, vR, h]
  · rw [if_neg h]
    refine e_one hl ?_
    simp [one, alu, dvs, fld, arr, vI, vR, h]
theorem e_iast {x i : Int32} {t q : Nat} {r : List IV} (hl : look k pc = some (.iastore, nx, ex)) : exec d k pc ls (vI x :: vI i :: vR t q :: r) σ = if oob i (lenT t) = true then none else exec d k nx ls r (se σ t q i.toNatClampNeg x) := by
  by_cases h : oob i (lenT t) = true
  · rw [if_pos h]
    refine e_bad hl ?_ rfl rfl
    simp [one, alu, dvs, fld, arr, lib, jmp, vI, vR, h]
  · rw [if_neg h]
    refine e_one hl ?_
    simp [one, alu, dvs, fld, arr, vI, vR, h]
theorem e_aald1 {i : Int32} {q : Nat} {r : List IV} (hl : look k pc = some (.aaload, nx, ex)) : exec d k pc ls (vI i :: vR 23 q :: r) σ = if oob i 6 = true then none else exec d k nx ls (vR 24 i.toNatClampNeg :: r) σ := by
  by_cases h : oob i 6 = true
  · rw [if_pos h]
    refine e_bad hl ?_ rfl rfl
    simp [one, alu, dvs, fld, arr, lib, jmp, vI, vR, h]
  · rw [if_neg h]
    refine e_one hl ?_
    simp [one, alu, dvs, fld, arr, vI, vR, h]
theorem e_aald2 {i : Int32} {q : Nat} {r : List IV} (hl : look k pc = some (.aaload, nx, ex)) : exec d k pc ls (vI i :: vR 25 q :: r) σ = if oob i 6 = true then none else exec d k nx ls (vR 26 i.toNatClampNeg :: r) σ := by
  by_cases h : oob i 6 = true
  · rw [if_pos h]
    refine e_bad hl ?_ rfl rfl
    simp [one, alu, dvs, fld, arr, lib, jmp, vI, vR, h]
  · rw [if_neg h]
    refine e_one hl ?_
    simp [one, alu, dvs, fld, arr, vI, vR, h]
theorem e_idiv {x y : Int32} {r : List IV} (hl : look k pc = some (.idiv, nx, ex)) : exec d k pc ls (vI y :: vI x :: r) σ = if y = 0 then none else exec d k nx ls (vI (x / y) :: r) σ := by
  by_cases h : y = 0
  · rw [if_pos h]
    refine e_bad hl ?_ rfl rfl
    simp [one, alu, dvs, fld, arr, lib, jmp, vI, h]
  · rw [if_neg h]
    refine e_one hl ?_
    simp [one, alu, dvs, vI, h]
theorem e_irem {x y : Int32} {r : List IV} (hl : look k pc = some (.irem, nx, ex)) : exec d k pc ls (vI y :: vI x :: r) σ = if y = 0 then none else exec d k nx ls (vI (x - x / y * y) :: r) σ := by
  by_cases h : y = 0
  · rw [if_pos h]
    refine e_bad hl ?_ rfl rfl
    simp [one, alu, dvs, fld, arr, lib, jmp, vI, h]
  · rw [if_neg h]
    refine e_one hl ?_
    simp [one, alu, dvs, vI, h]
theorem e_lrem {x y : Int64} {r : List IV} (hl : look k pc = some (.lrem, nx, ex)) : exec d k pc ls (vL y :: vL x :: r) σ = if y = 0 then none else exec d k nx ls (vL (x - x / y * y) :: r) σ := by
  by_cases h : y = 0
  · rw [if_pos h]
    refine e_bad hl ?_ rfl rfl
    simp [one, alu, dvs, fld, arr, lib, jmp, vL, h]
  · rw [if_neg h]
    refine e_one hl ?_
    simp [one, alu, dvs, vL, h]
theorem e_copy {n dp sp : Int32} {t1 q1 t2 q2 j : Nat} {r : List IV} {ex' : List Nat} (hl : look k pc = some (.invokestatic j, nx, 22 :: ex')) : exec d k pc ls (vI n :: vI dp :: vR t2 q2 :: vI sp :: vR t1 q1 :: r) σ = if dp = 0 ∧ sp = 0 ∧ n = nI (lenT t1) ∧ lenT t1 = lenT t2 ∧ lenT t1 ≠ 0 ∧ r.length ≤ 4 then exec d k nx ls r (sw σ t2 q2 (ar σ t1 q1)) else none := by
  by_cases h : dp = 0 ∧ sp = 0 ∧ n = nI (lenT t1) ∧ lenT t1 = lenT t2 ∧ lenT t1 ≠ 0 ∧ r.length ≤ 4
  · rw [if_pos h]
    refine e_one hl ?_
    unfold one
    have e : lib (.invokestatic j) (22 :: ex') (vI n :: vI dp :: vR t2 q2 :: vI sp :: vR t1 q1 :: r) σ = some (r, sw σ t2 q2 (ar σ t1 q1)) := if_pos h
    rw [e]
    rfl
  · rw [if_neg h]
    refine e_bad hl ?_ rfl rfl
    unfold one
    have e : lib (.invokestatic j) (22 :: ex') (vI n :: vI dp :: vR t2 q2 :: vI sp :: vR t1 q1 :: r) σ = none := if_neg h
    rw [e]
    rfl
theorem e_putZ {x : Int32} {q j T f : Nat} {r : List IV} {ex' : List Nat} (hl : look k pc = some (.putfield j, nx, 3 :: T :: f :: ex')) : exec d k pc ls (vI x :: vR T q :: r) σ = if x = 0 ∨ x = 1 then exec d k nx ls r (se σ T q f x) else none := by
  have e0 : fld (.putfield j) (3 :: T :: f :: ex') (vI x :: vR T q :: r) σ = bif Nat.beq T T then (if x = 0 ∨ x = 1 then some (r, se σ T q f x) else none) else none := rfl
  rw [Nat.beq_refl, cond_true] at e0
  by_cases h : x = 0 ∨ x = 1
  · rw [if_pos h]
    rw [if_pos h] at e0
    refine e_one hl ?_
    unfold one
    rw [e0]
    rfl
  · rw [if_neg h]
    rw [if_neg h] at e0
    refine e_bad hl ?_ rfl rfl
    unfold one
    rw [e0]
    rfl
theorem e_retZ {x : Int32} {ex' : List Nat} (hl : look k pc = some (.ireturn, nx, 1 :: ex')) : exec d k pc ls [vI x] σ = if x = 0 ∨ x = 1 then some (some (vI x), σ) else none := by
  by_cases h : x = 0 ∨ x = 1
  · rw [if_pos h]
    exact e_rtn hl rfl (if_pos h)
  · rw [if_neg h]
    exact e_bad hl rfl (if_neg h) rfl
theorem e_retB {x : Int32} {ex' : List Nat} (hl : look k pc = some (.ireturn, nx, 2 :: ex')) : exec d k pc ls [vI x] σ = if x = 0 then some (some (vI x), σ) else none := by
  by_cases h : x = 0
  · rw [if_pos h]
    exact e_rtn hl rfl (if_pos h)
  · rw [if_neg h]
    exact e_bad hl rfl (if_neg h) rfl
theorem e_if {b : Bool} {A B : Nat} {r : List IV} (h : exec d k pc ls stk σ = exec d k (bif b then A else B) ls r σ) {p : Prop} (hb : b = true ↔ p) [Decidable p] : exec d k pc ls stk σ = if p then exec d k A ls r σ else exec d k B ls r σ := by
  rw [h]
  cases b with
  | true => rw [if_pos (hb.mp rfl)]; rfl
  | false => rw [if_neg (fun q => by have := hb.mpr q; cases this)]; rfl
theorem e_ifn {b : Bool} {A B : Nat} {r : List IV} (h : exec d k pc ls stk σ = exec d k (bif b then A else B) ls r σ) {p : Prop} (hb : b = true ↔ ¬ p) [Decidable p] : exec d k pc ls stk σ = if p then exec d k B ls r σ else exec d k A ls r σ := by
  rw [h]
  cases b with
  | true => rw [if_neg (hb.mp rfl)]; rfl
  | false =>
    rw [if_pos (Classical.byContradiction (fun q => by have := hb.mpr q; cases this))]
    rfl
theorem cnd_eq {x y : Int32} : cnd .eq x y = true ↔ x = y := by simp [cnd]
theorem cnd_ne {x y : Int32} : cnd .ne x y = true ↔ ¬ x = y := by simp [cnd]
theorem cnd_lt {x y : Int32} : cnd .lt x y = true ↔ x < y := by simp [cnd]
theorem cnd_ge {x y : Int32} : cnd .ge x y = true ↔ ¬ x < y := by simp [cnd, Int32.not_lt]
theorem cnd_gt {x y : Int32} : cnd .gt x y = true ↔ y < x := by simp [cnd]
theorem cnd_le {x y : Int32} : cnd .le x y = true ↔ ¬ y < x := by simp [cnd, Int32.not_lt]
theorem e_sw (h : exec d k pc ls stk σ = exec d k pc' ls' stk' σ') {X : Option (Option IV × St)} (hx : exec d k pc' ls' stk' σ' = X) : exec d k pc ls stk σ = X := h.trans hx
end EX

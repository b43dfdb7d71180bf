/-! A run of the reader is a run of the machine: calls, returns, and all together. -/
theorem okV_i {x : Int32} : okV (.inl x) := trivial
theorem okV_l {x : Int64} : okV (.inr (.inl x)) := trivial
theorem okV_n {x : Unit} : okV (.inr (.inr (.inr x))) := trivial
theorem ok_cons {v : IV} {l : List IV} (h1 : okV v) (h2 : ∀ x ∈ l, okV x) : ∀ x ∈ v :: l, okV x := fun x h => (List.mem_cons.mp h).elim (fun e => e ▸ h1) (h2 x)
theorem ok_tail {v : IV} {l : List IV} (h : ∀ x ∈ v :: l, okV x) : ∀ x ∈ l, okV x := fun x hx => h x (List.mem_cons_of_mem _ hx)
theorem ok_set {v : IV} {l : List IV} {i : Nat} (h1 : okV v) (h2 : ∀ x ∈ l, okV x) : ∀ x ∈ l.set i v, okV x := fun x h => (List.mem_or_eq_of_mem_set h).elim (h2 x) (fun e => e ▸ h1)
theorem alu_ok {i : Instr} {ls stk ls' stk' : List IV} (ha : alu i ls stk = some (ls', stk')) (h1 : ∀ x ∈ ls, okV x) (h2 : ∀ x ∈ stk, okV x) : (∀ x ∈ ls', okV x) ∧ ∀ x ∈ stk', okV x := by
  have fI : ∀ {k : Nat}, ldI ls stk k = some (ls', stk') → (∀ x ∈ ls', okV x) ∧ ∀ x ∈ stk', okV x := fun h => by
    obtain ⟨x, -, rfl, rfl⟩ := ldI_inv h
    exact ⟨h1, ok_cons okV_i h2⟩
  have fL : ∀ {k : Nat}, ldL ls stk k = some (ls', stk') → (∀ x ∈ ls', okV x) ∧ ∀ x ∈ stk', okV x := fun h => by
    obtain ⟨x, -, -, rfl, rfl⟩ := ldL_inv h
    exact ⟨h1, ok_cons okV_l h2⟩
  have fR : ∀ {k : Nat}, ldR ls stk k = some (ls', stk') → (∀ x ∈ ls', okV x) ∧ ∀ x ∈ stk', okV x := fun h => by
    obtain ⟨t, q, e1, rfl, rfl⟩ := ldR_inv h
    exact ⟨h1, ok_cons (h1 (.inr (.inr (.inl (t, q)))) (List.mem_of_getElem? e1)) h2⟩
  have sI : ∀ {k : Nat}, stI ls stk k = some (ls', stk') → (∀ x ∈ ls', okV x) ∧ ∀ x ∈ stk', okV x := fun h => by
    obtain ⟨x, r, rfl, -, rfl, rfl⟩ := stI_inv h
    exact ⟨ok_set okV_i h1, ok_tail h2⟩
  have sL : ∀ {k : Nat}, stL ls stk k = some (ls', stk') → (∀ x ∈ ls', okV x) ∧ ∀ x ∈ stk', okV x := fun h => by
    obtain ⟨x, r, rfl, -, rfl, rfl⟩ := stL_inv h
    exact ⟨ok_set okV_n (ok_set okV_l h1), ok_tail h2⟩
  have sR : ∀ {k : Nat}, stR ls stk k = some (ls', stk') → (∀ x ∈ ls', okV x) ∧ ∀ x ∈ stk', okV x := fun h => by
    obtain ⟨t, q, r, rfl, -, rfl, rfl⟩ := stR_inv h
    exact ⟨ok_set (h2 _ List.mem_cons_self) h1, ok_tail h2⟩
  have o2 : ∀ {f : Int32 → Int32 → Int32}, op2 f ls stk = some (ls', stk') → (∀ x ∈ ls', okV x) ∧ ∀ x ∈ stk', okV x := fun h => by
    obtain ⟨y, x, r, rfl, rfl, rfl⟩ := op2_inv h
    exact ⟨h1, ok_cons okV_i (ok_tail (ok_tail h2))⟩
  have oL : ∀ {f : Int64 → Int64 → Int64}, opL f ls stk = some (ls', stk') → (∀ x ∈ ls', okV x) ∧ ∀ x ∈ stk', okV x := fun h => by
    obtain ⟨y, x, r, rfl, rfl, rfl⟩ := opL_inv h
    exact ⟨h1, ok_cons okV_l (ok_tail (ok_tail h2))⟩
  cases i with
  | iconst n => cases ha; exact ⟨h1, ok_cons okV_i h2⟩
  | bipush n => cases ha; exact ⟨h1, ok_cons okV_i h2⟩
  | sipush n => cases ha; exact ⟨h1, ok_cons okV_i h2⟩
  | lconst n => cases ha; exact ⟨h1, ok_cons okV_l h2⟩
  | iload_n k => exact fI ha
  | iload k => exact fI ha
  | lload_n k => exact fL ha
  | lload k => exact fL ha
  | aload_n k => exact fR ha
  | aload k => exact fR ha
  | istore_n k => exact sI ha
  | istore k => exact sI ha
  | lstore_n k => exact sL ha
  | lstore k => exact sL ha
  | astore_n k => exact sR ha
  | astore k => exact sR ha
  | iinc k n =>
    obtain ⟨x, -, rfl, rfl⟩ := icI_inv (show icI ls stk _ _ = some _ from ha)
    exact ⟨ok_set okV_i h1, h2⟩
  | iadd => exact o2 ha
  | isub => exact o2 ha
  | imul => exact o2 ha
  | iand => exact o2 ha
  | ior => exact o2 ha
  | ishl => exact o2 ha
  | ishr => exact o2 ha
  | ladd => exact oL ha
  | lmul => exact oL ha
  | land => exact oL ha
  | lcmp =>
    simp only [alu] at ha
    split at ha
    · cases ha; exact ⟨h1, ok_cons okV_i (ok_tail (ok_tail h2))⟩
    · cases ha
  | i2l =>
    simp only [alu] at ha
    split at ha
    · cases ha; exact ⟨h1, ok_cons okV_l (ok_tail h2)⟩
    · cases ha
  | l2i =>
    simp only [alu] at ha
    split at ha
    · cases ha; exact ⟨h1, ok_cons okV_i (ok_tail h2)⟩
    · cases ha
  | i2b =>
    simp only [alu] at ha
    split at ha
    · cases ha; exact ⟨h1, ok_cons okV_i (ok_tail h2)⟩
    · cases ha
  | i2c =>
    simp only [alu] at ha
    split at ha
    · cases ha; exact ⟨h1, ok_cons okV_i (ok_tail h2)⟩
    · cases ha
  | dup =>
    obtain ⟨a, r, rfl, -, rfl, rfl⟩ := dup_inv ha
    exact ⟨h1, ok_cons (h2 a List.mem_cons_self) h2⟩
  | pop =>
    obtain ⟨a, r, rfl, -, rfl, rfl⟩ := pop_inv ha
    exact ⟨h1, ok_tail h2⟩
  | dup2 =>
    obtain ⟨a, b, r, rfl, -, -, rfl, rfl⟩ := dup2_inv ha
    exact ⟨h1, ok_cons (h2 a List.mem_cons_self) (ok_cons (h2 b (List.mem_cons_of_mem _ List.mem_cons_self)) h2)⟩
  | _ => simp [alu] at ha
theorem dvs_ok {i : Instr} {stk stk' : List IV} (ha : dvs i stk = some stk') (h2 : ∀ x ∈ stk, okV x) : ∀ x ∈ stk', okV x := by
  cases i with
  | idiv =>
    simp only [dvs] at ha
    split at ha
    · split at ha
      · cases ha
      · cases ha; exact ok_cons okV_i (ok_tail (ok_tail h2))
    · cases ha
  | irem =>
    simp only [dvs] at ha
    split at ha
    · split at ha
      · cases ha
      · cases ha; exact ok_cons okV_i (ok_tail (ok_tail h2))
    · cases ha
  | lrem =>
    simp only [dvs] at ha
    split at ha
    · split at ha
      · cases ha
      · cases ha; exact ok_cons okV_l (ok_tail (ok_tail h2))
    · cases ha
  | _ => simp [dvs] at ha
theorem fld_okV {own : String} {rt : Option FieldType} {pc : Nat} {i : Instr} {ex : List Nat} {stk stk' : List IV} {σ σ' : St} (hk : lnk own rt pc i ex = true) (ha : fld i ex stk σ = some (stk', σ')) (h2 : ∀ x ∈ stk, okV x) : ∀ x ∈ stk', okV x := by
  cases i with
  | getfield j =>
    replace hk : getB own j ex = true := hk
    simp only [fld] at ha
    split at ha
    · rename_i T k tl t q r
      cases hb' : Nat.beq t T with
      | false => rw [hb'] at ha; cases ha
      | true => rw [hb'] at ha; cases ha; exact ok_cons okV_i (ok_tail h2)
    · rename_i T k a b T' zz tl t q r
      cases hb' : Nat.beq t T with
      | false => rw [hb'] at ha; cases ha
      | true =>
        rw [hb'] at ha
        have e0 := beq_e hb'
        subst e0
        cases ha
        obtain ⟨z, pz, hf, h0⟩ := getB_1 hk
        obtain ⟨C, F, N, hw, hkN, -⟩ := fieldB_inv hf
        obtain ⟨-, -, -, hN, h8⟩ := wcl_ok hw
        have hc : (t, q) ∈ wcells := okR_w (h2 _ List.mem_cons_self) (by omega)
        have h3 := fld_ok (t, q) hc h8 k (by have := nF_le t h8; omega) (by rw [h0])
        rw [h0] at h3
        exact ok_cons (Or.inl h3) (ok_tail h2)
    · rename_i T tl t q r
      cases hb' : Nat.beq t T with
      | false => rw [hb'] at ha; cases ha
      | true => rw [hb'] at ha; cases ha; exact ok_cons okV_l (ok_tail h2)
    · cases ha
      exact ok_cons (Or.inr ⟨by decide, by decide, rfl⟩) (ok_tail h2)
    · cases ha
      exact ok_cons okV_i (ok_tail h2)
    · cases ha
  | putfield j =>
    simp only [fld] at ha
    split at ha
    · rename_i T k tl x t q r
      cases hb' : Nat.beq t T with
      | false => rw [hb'] at ha; cases ha
      | true => rw [hb'] at ha; cases ha; exact ok_tail (ok_tail h2)
    · rename_i T tl x t q r
      cases hb' : Nat.beq t T with
      | false => rw [hb'] at ha; cases ha
      | true => rw [hb'] at ha; cases ha; exact ok_tail (ok_tail h2)
    · rename_i T k tl x t q r
      cases hb' : Nat.beq t T with
      | false => rw [hb'] at ha; cases ha
      | true =>
        rw [hb'] at ha
        simp only [cond_true] at ha
        split at ha
        · cases ha; exact ok_tail (ok_tail h2)
        · cases ha
    · cases ha
  | getstatic j =>
    replace hk : gstB own j ex = true := hk
    simp only [fld] at ha
    split at ha
    · cases ha; exact ok_cons okV_i h2
    · cases ha
      obtain ⟨e1, -⟩ := gstB_1 hk
      exact ok_cons (Or.inr ⟨by omega, by omega, rfl⟩) h2
    · cases ha
  | ldc j =>
    replace hk : ldcB own j ex = true := hk
    simp only [fld] at ha
    split at ha
    · cases ha; exact ok_cons okV_i h2
    · cases ha
      obtain ⟨e1, -⟩ := ldcB_1 hk
      exact ok_cons (Or.inr ⟨by omega, by omega, rfl⟩) h2
    · cases ha
  | ldc_w j =>
    simp only [fld] at ha
    split at ha
    · cases ha; exact ok_cons okV_i h2
    · cases ha
  | ldc2_w j =>
    simp only [fld] at ha
    split at ha
    · cases ha; exact ok_cons okV_l h2
    · cases ha
  | _ => simp [fld] at ha
theorem arr_okV {i : Instr} {stk stk' : List IV} {σ σ' : St} (ha : arr i stk σ = some (stk', σ')) (h2 : ∀ x ∈ stk, okV x) : ∀ x ∈ stk', okV x := by
  cases i with
  | iaload =>
    simp only [arr] at ha
    split at ha
    · split at ha
      · cases ha
      · cases ha; exact ok_cons okV_i (ok_tail (ok_tail h2))
    · cases ha
  | baload =>
    simp only [arr] at ha
    split at ha
    · split at ha
      · cases ha
      · cases ha; exact ok_cons okV_i (ok_tail (ok_tail h2))
    · cases ha
  | iastore =>
    simp only [arr] at ha
    split at ha
    · split at ha
      · cases ha
      · cases ha; exact ok_tail (ok_tail (ok_tail h2))
    · cases ha
  | aaload =>
    simp only [arr] at ha
    split at ha
    · split at ha
      · cases ha
      · rename_i hn
        cases ha
        exact ok_cons (Or.inl (row_ok _ (vp_in_pos (oob_in hn))).1) (ok_tail (ok_tail h2))
    · split at ha
      · cases ha
      · rename_i hn
        cases ha
        exact ok_cons (Or.inl (row_ok _ (vp_in_pos (oob_in hn))).2) (ok_tail (ok_tail h2))
    · cases ha
  | arraylength =>
    simp only [arr] at ha
    split at ha
    · rename_i t q r
      cases hi : isA t with
      | false => rw [hi] at ha; cases ha
      | true => rw [hi] at ha; cases ha; exact ok_cons okV_i (ok_tail h2)
    · cases ha
  | _ => simp [arr] at ha
theorem lib_okV {i : Instr} {ex : List Nat} {stk stk' : List IV} {σ σ' : St} (ha : lib i ex stk σ = some (stk', σ')) (h2 : ∀ x ∈ stk, okV x) : ∀ x ∈ stk', okV x := by
  cases i with
  | invokestatic j =>
    simp only [lib] at ha
    split at ha
    · split at ha
      · rename_i y x r
        cases hl : Nat.ble r.length 4 with
        | false => rw [hl] at ha; cases ha
        | true => rw [hl] at ha; cases ha; exact ok_cons okV_i (ok_tail (ok_tail h2))
      · cases ha
    · split at ha
      · rename_i y x r
        cases hl : Nat.ble r.length 4 with
        | false => rw [hl] at ha; cases ha
        | true => rw [hl] at ha; cases ha; exact ok_cons okV_i (ok_tail (ok_tail h2))
      · cases ha
    · split at ha
      · split at ha
        · cases ha; exact ok_tail (ok_tail (ok_tail (ok_tail (ok_tail h2))))
        · cases ha
      · cases ha
    · cases ha
  | _ => simp [lib] at ha
theorem jmp_okV {i : Instr} {ex : List Nat} {nx pc' : Nat} {stk stk' : List IV} (ha : jmp i ex nx stk = some (pc', stk')) (h2 : ∀ x ∈ stk, okV x) : ∀ x ∈ stk', okV x := by
  cases i with
  | goto o =>
    simp only [jmp] at ha
    split at ha
    · cases ha; exact h2
    · cases ha
  | ifCond k o =>
    simp only [jmp] at ha
    split at ha
    · cases ha; exact ok_tail h2
    · cases ha
  | if_icmp k o =>
    simp only [jmp] at ha
    split at ha
    · cases ha; exact ok_tail (ok_tail h2)
    · cases ha
  | lookupswitch d ps =>
    simp only [jmp] at ha
    split at ha
    · cases ha; exact ok_tail h2
    · cases ha
  | tableswitch d lo hi offs =>
    simp only [jmp] at ha
    split at ha
    · cases ha; exact ok_tail h2
    · cases ha
  | _ => simp [jmp] at ha
theorem exps_ok : ∀ (as : List IV), (∀ x ∈ as, okV x) → ∀ x ∈ exps as, okV x
  | [], _ => fun x h => by cases h
  | .inl y :: r, h => ok_cons (h _ List.mem_cons_self) (exps_ok r (ok_tail h))
  | .inr (.inl y) :: r, h => ok_cons okV_l (ok_cons okV_n (exps_ok r (ok_tail h)))
  | .inr (.inr (.inl y)) :: r, h => ok_cons (h _ List.mem_cons_self) (exps_ok r (ok_tail h))
  | .inr (.inr (.inr y)) :: r, h => ok_cons (h _ List.mem_cons_self) (exps_ok r (ok_tail h))
theorem ent_ok {n : Nat} {as : List IV} (h : ∀ x ∈ as, okV x) : ∀ x ∈ ent n as, okV x := fun x hx => by
  rcases List.mem_append.mp hx with hx | hx
  · exact exps_ok as h x hx
  · rw [List.eq_of_mem_replicate hx]
    exact okV_n
/-! the locals with which a method begins -/
theorem exps_len {ad : Nat → Nat → Nat} : ∀ as : List IV, (lg_sl (as.map (mp ad))).length = (exps as).length
  | [] => rfl
  | .inl y :: r => by
    have := exps_len (ad := ad) r
    simp [lg_sl, exps, mp, Value.category] at this ⊢
    exact this
  | .inr (.inl y) :: r => by
    have := exps_len (ad := ad) r
    simp [lg_sl, exps, mp, Value.category] at this ⊢
    exact this
  | .inr (.inr (.inl (t, q))) :: r => by
    have := exps_len (ad := ad) r
    simp [lg_sl, exps, mp, Value.category] at this ⊢
    exact this
  | .inr (.inr (.inr ())) :: r => by
    have := exps_len (ad := ad) r
    simp [lg_sl, exps, mp, Value.category] at this ⊢
    exact this
theorem claim_at {ad : Nat → Nat → Nat} {l1 l2 : List IV} {v : IV} {q : Nat × Value} (h : claim ad (l1 ++ v :: l2) q.1 = some q) (he : q.1 = l1.length) : (∃ w, q = (l1.length, w)) ∧ (cat1 v = true → q = (l1.length, mp ad v)) ∧ (∀ x, v = .inr (.inl x) → q = (l1.length, mp ad v)) ∧ v ≠ .inr (.inr (.inr ())) := by
  have hg : (l1 ++ v :: l2)[q.1]? = some v := by rw [he, List.getElem?_append_right (Nat.le_refl _), Nat.sub_self]; rfl
  unfold claim at h
  rw [hg] at h
  obtain x | x | ⟨t, q'⟩ | x := v
  · have h := (Option.some.inj h).symm
    rw [he] at h
    exact ⟨⟨_, h⟩, fun _ => h, (fun y hy => by cases hy), (fun z => by cases z)⟩
  · dsimp only at h
    split at h
    · have h := (Option.some.inj h).symm
      rw [he] at h
      exact ⟨⟨_, h⟩, (fun z => by cases z), (fun y hy => by cases hy; exact h), (fun z => by cases z)⟩
    · cases h
  · have h := (Option.some.inj h).symm
    rw [he] at h
    exact ⟨⟨_, h⟩, fun _ => h, (fun y hy => by cases hy), (fun z => by cases z)⟩
  · cases h
theorem ent_claim {ad : Nat → Nat → Nat} {r : Nat} : ∀ (as : List IV) (l0 : List IV) (q : Nat × Value), claim ad (l0 ++ (exps as ++ List.replicate r vN)) q.1 = some q → l0.length ≤ q.1 → q ∈ lv_args l0.length (as.map (mp ad))
  | [], l0, q, h, hl => by
    exfalso
    unfold claim at h
    rw [List.getElem?_append_right hl] at h
    simp only [exps, List.nil_append] at h
    cases hx : (List.replicate r vN)[q.1 - l0.length]? with
    | none => rw [hx] at h; cases h
    | some v =>
      rw [hx] at h
      have := List.eq_of_mem_replicate (List.mem_of_getElem? hx)
      subst this
      cases h
  | .inl y :: as, l0, q, h, hl => by
    by_cases e : q.1 = l0.length
    · have := (claim_at (l2 := exps as ++ List.replicate r vN) h e).2.1 rfl
      rw [this]
      exact List.mem_cons_self
    · have h2 : claim ad ((l0 ++ [.inl y]) ++ (exps as ++ List.replicate r vN)) q.1 = some q := by
        rw [List.append_assoc]; exact h
      have := ent_claim as (l0 ++ [.inl y]) q h2 (by rw [List.length_append, List.length_cons, List.length_nil]; omega)
      rw [List.length_append] at this
      exact List.mem_cons_of_mem _ this
  | .inr (.inl y) :: as, l0, q, h, hl => by
    by_cases e : q.1 = l0.length
    · have := (claim_at (l2 := vN :: (exps as ++ List.replicate r vN)) h e).2.2.1 y rfl
      rw [this]
      exact List.mem_cons_self
    · by_cases e1 : q.1 = l0.length + 1
      · exfalso
        have h2 : claim ad ((l0 ++ [vL y]) ++ vN :: (exps as ++ List.replicate r vN)) q.1 = some q := by
          rw [List.append_assoc]; exact h
        exact (claim_at h2 (by rw [List.length_append]; exact e1)).2.2.2 rfl
      · have h2 : claim ad ((l0 ++ [vL y, vN]) ++ (exps as ++ List.replicate r vN)) q.1 = some q := by
          rw [List.append_assoc]; exact h
        have := ent_claim as (l0 ++ [vL y, vN]) q h2 (by rw [List.length_append, List.length_cons, List.length_cons, List.length_nil]; omega)
        rw [List.length_append] at this
        exact List.mem_cons_of_mem _ this
  | .inr (.inr (.inl (t, q'))) :: as, l0, q, h, hl => by
    by_cases e : q.1 = l0.length
    · have := (claim_at (l2 := exps as ++ List.replicate r vN) h e).2.1 rfl
      rw [this]
      exact List.mem_cons_self
    · have h2 : claim ad ((l0 ++ [.inr (.inr (.inl (t, q')))]) ++ (exps as ++ List.replicate r vN)) q.1 = some q := by
        rw [List.append_assoc]; exact h
      have := ent_claim as (l0 ++ [.inr (.inr (.inl (t, q')))]) q h2 (by rw [List.length_append, List.length_cons, List.length_nil]; omega)
      rw [List.length_append] at this
      exact List.mem_cons_of_mem _ this
  | .inr (.inr (.inr ())) :: as, l0, q, h, hl => by
    by_cases e : q.1 = l0.length
    · exact absurd rfl (claim_at (l2 := exps as ++ List.replicate r vN) h e).2.2.2
    · have h2 : claim ad ((l0 ++ [vN]) ++ (exps as ++ List.replicate r vN)) q.1 = some q := by
        rw [List.append_assoc]; exact h
      have := ent_claim as (l0 ++ [vN]) q h2 (by rw [List.length_append, List.length_cons, List.length_nil]; omega)
      rw [List.length_append] at this
      exact List.mem_cons_of_mem _ this
theorem ent_LR {ad : Nat → Nat → Nat} {n : Nat} {as : List IV} (h : (exps as).length ≤ n) : LR ad ((lg_sl (as.map (mp ad)) ++ List.replicate (n - (lg_sl (as.map (mp ad))).length) Slot.unset).toArray) n (ent n as) := by
  have h0 := lv_entry (as.map (mp ad)) (n := n) (by rw [exps_len]; exact h)
  refine ⟨by unfold ent; rw [List.length_append, List.length_replicate]; omega, h0.1, h0.2.1, fun q hq => h0.2.2 q ?_⟩
  exact ent_claim as [] q (clm_mem.mp hq) (Nat.zero_le _)
theorem lk_mem : ∀ (l : List Row) (pc : Nat) (x : Instr × Nat × List Nat), lk pc l = some x → (pc, x) ∈ l
  | [], pc, x, h => by cases h
  | r :: l, pc, x, h => by
    rw [lk] at h
    cases hb : Nat.beq r.1 pc with
    | false => rw [hb] at h; exact List.mem_cons_of_mem _ (lk_mem l pc x h)
    | true =>
      rw [hb] at h
      have e := beq_e hb
      have e2 : r.2 = x := Option.some.inj h
      rw [← e, ← e2]
      exact List.mem_cons_self
theorem row_of {k pc nx : Nat} {i : Instr} {ex : List Nat} {f : Row → Bool} (h : (codes.getD k []).all f = true) (hl : look k pc = some (i, nx, ex)) : f (pc, i, nx, ex) = true :=
  List.all_eq_true.mp h _ (lk_mem _ _ _ hl)
theorem mw_inv {k : Nat} (h : mwB k = true) : (Jvm.Cond.code (mY k) (mB k) (mM k) (mR k)) ∈ TB ∧ (Jvm.Cond.initialized (mY k).cls) ∈ TB ∧ (mS k = true → (Jvm.Cond.static (mY k)) ∈ TB) ∧ (mS k = false → (Jvm.Cond.instanceMethod (mY k)) ∈ TB ∧ (Jvm.Cond.selects (mY k).cls (mY k) (mY k)) ∈ TB) ∧ plainName (mY k).cls = true ∧ ((mY k).cls ≠ "java/lang/invoke/MethodHandle" ∧ (mY k).cls ≠ "java/lang/invoke/VarHandle") ∧ (parseMethodDescriptor (mY k).desc).map (fun d => d.parameters.length) = some (mN k) ∧ mM k = mL k ∧ mL k ≤ 20 := by
  unfold mwB at h
  split at h
  · rename_i a b c d e
    simp only [Bool.and_eq_true, decide_eq_true_eq] at h
    obtain ⟨h1, h2, h3, h4, h5, h6, h7, h8, h9⟩ := h
    refine ⟨wAt_tb h1, wAt_tb h2, fun z => ?_, fun z => ?_, h4, ⟨h5, h6⟩, h7, h8, Nat.ble_eq.mp h9⟩
    · rw [if_pos z] at h3; exact wAt_tb h3
    · rw [if_neg (by rw [z]; exact Bool.false_ne_true)] at h3
      simp only [Bool.and_eq_true] at h3
      exact ⟨wAt_tb h3.1, wAt_tb h3.2⟩
  · cases h

/-! Beyond an array's length nothing is ever written. -/
def Wf (σ : St) : Prop := ∀ t q j, 10 ≤ t → lenT t ≤ j → ar σ t q j = 0
def okp (i : Instr) (ex : List Nat) : Bool := match i with
  | .putfield _ => match ex with
    | 0 :: T :: _ => Nat.blt T 10
    | 3 :: T :: _ => Nat.blt T 10
    | _ => true
  | _ => true
set_option maxRecDepth 100000 in
theorem okp_all : (codes.all (fun l => l.all (fun r => okp r.2.1 r.2.2.2))) = true := by decide +kernel
theorem lk_memW : ∀ {l : List Row} {pc : Nat} {x : Instr × Nat × List Nat}, lk pc l = some x → ∃ r ∈ l, r.2 = x
  | [], _, _, h => by cases h
  | r :: l, pc, x, h => by
    rw [lk] at h
    cases hb : Nat.beq r.1 pc with
    | true => rw [hb] at h; cases h; exact ⟨r, List.mem_cons_self, rfl⟩
    | false =>
      rw [hb] at h
      obtain ⟨r', h1, h2⟩ := lk_memW h
      exact ⟨r', List.mem_cons_of_mem _ h1, h2⟩
theorem look_okp {k pc nx : Nat} {i : Instr} {ex : List Nat} (h : look k pc = some (i, nx, ex)) : okp i ex = true := by
  obtain ⟨r, h1, h2⟩ := lk_memW h
  have h3 := List.all_eq_true.mp okp_all (codes.getD k []) (by
    rw [List.getD_eq_getElem?_getD] at h1 ⊢
    cases hk : codes[k]? with
    | none => rw [hk] at h1; cases h1
    | some l => exact List.mem_of_getElem? hk)
  have h4 := List.all_eq_true.mp h3 r h1
  rw [h2] at h4
  exact h4
theorem Wf.se {σ : St} {t q j : Nat} {x : Int32} (h : Wf σ) (ht : t < 10 ∨ j < lenT t) : Wf (se σ t q j x) := by
  intro t' q' j' h1 h2
  rw [se_def]
  by_cases e : t' = t
  · subst e
    by_cases e2 : q' = q
    · subst e2
      rw [ar_sw_s, upd_n (by omega)]
      exact h _ _ _ h1 h2
    · rw [ar_sw_q e2]
      exact h _ _ _ h1 h2
  · rw [ar_sw_t e]
    exact h _ _ _ h1 h2
theorem Wf.sw {σ : St} {t q : Nat} {f : Nat → Int32} (h : Wf σ) (hf : ∀ j, lenT t ≤ j → f j = 0) : Wf (sw σ t q f) := by
  intro t' q' j' h1 h2
  by_cases e : t' = t
  · subst e
    by_cases e2 : q' = q
    · subst e2
      rw [ar_sw_s]
      exact hf _ h2
    · rw [ar_sw_q e2]
      exact h _ _ _ h1 h2
  · rw [ar_sw_t e]
    exact h _ _ _ h1 h2
theorem fld_wf {i : Instr} {ex : List Nat} {stk stk' : List IV} {σ σ' : St} (ho : okp i ex = true) (h : fld i ex stk σ = some (stk', σ')) (hw : Wf σ) : Wf σ' := by
  unfold fld at h
  split at h
  · split at h
    · cases hb : Nat.beq _ _ with
      | _ => rw [hb] at h; cases h <;> exact hw
    · cases hb : Nat.beq _ _ with
      | _ => rw [hb] at h; cases h <;> exact hw
    · cases hb : Nat.beq _ _ with
      | _ => rw [hb] at h; cases h <;> exact hw
    · cases h; exact hw
    · cases h; exact hw
    · cases h
  · split at h
    · rename_i T k _ x t q r
      have hT : T < 10 := Nat.blt_eq.mp ho
      cases hb : Nat.beq t T with
      | false => rw [hb] at h; cases h
      | true => rw [hb] at h; cases h; exact hw.se (Or.inl hT)
    · cases hb : Nat.beq _ _ with
      | false => rw [hb] at h; cases h
      | true => rw [hb] at h; cases h; exact hw
    · rename_i T k _ x t q r
      have hT : T < 10 := Nat.blt_eq.mp ho
      cases hb : Nat.beq t T with
      | false => rw [hb] at h; cases h
      | true =>
        rw [hb] at h
        simp only [cond_true] at h
        split at h
        · cases h; exact hw.se (Or.inl hT)
        · cases h
    · cases h
  · split at h
    · cases h; exact hw
    · cases h; exact hw
    · cases h
  · split at h
    · cases h; exact hw
    · cases h; exact hw
    · cases h
  · split at h
    · cases h; exact hw
    · cases h
  · split at h
    · cases h; exact hw
    · cases h
  · cases h
theorem oob_lt {i : Int32} {n : Nat} (h : ¬ oob i n = true) : i.toNatClampNeg < n := by
  unfold oob at h
  simp only [Bool.or_eq_true, decide_eq_true_eq, not_or, Nat.not_le] at h
  exact h.2
theorem arr_wf {i : Instr} {stk stk' : List IV} {σ σ' : St} (h : arr i stk σ = some (stk', σ')) (hw : Wf σ) : Wf σ' := by
  unfold arr at h
  split at h
  · split at h
    · split at h
      · cases h
      · cases h; exact hw
    · cases h
  · split at h
    · split at h
      · cases h
      · cases h; exact hw
    · cases h
  · split at h
    · split at h
      · cases h
      · rename_i hb
        cases h
        exact hw.se (Or.inr (oob_lt hb))
    · cases h
  · split at h
    · split at h
      · cases h
      · cases h; exact hw
    · split at h
      · cases h
      · cases h; exact hw
    · cases h
  · split at h
    · cases hb : isA _ with
      | _ => rw [hb] at h; cases h <;> exact hw
    · cases h
  · cases h
theorem lib_wf {i : Instr} {ex : List Nat} {stk stk' : List IV} {σ σ' : St} (h : lib i ex stk σ = some (stk', σ')) (hw : Wf σ) : Wf σ' := by
  unfold lib at h
  split at h
  · split at h
    · split at h
      · cases hb : Nat.ble _ _ with
        | _ => rw [hb] at h; cases h <;> exact hw
      · cases h
    · split at h
      · cases hb : Nat.ble _ _ with
        | _ => rw [hb] at h; cases h <;> exact hw
      · cases h
    · split at h
      · split at h
        · rename_i n dp t2 q2 sp t1 q1 r hc
          cases h
          refine hw.sw (fun j hj => hw t1 q1 j ?_ (by rw [hc.2.2.2.1]; exact hj))
          have h0 := hc.2.2.2.2.1
          apply Classical.byContradiction
          intro hlt
          apply h0
          have : t1 = 0 ∨ t1 = 1 ∨ t1 = 2 ∨ t1 = 3 ∨ t1 = 4 ∨ t1 = 5 ∨ t1 = 6 ∨ t1 = 7 ∨ t1 = 8 ∨ t1 = 9 := by omega
          rcases this with rfl | rfl | rfl | rfl | rfl | rfl | rfl | rfl | rfl | rfl <;> rfl
        · cases h
      · cases h
    · cases h
  · cases h
theorem one_wf {k pc nx pc' : Nat} {ls stk ls' stk' : List IV} {σ σ' : St} {i : Instr} {ex : List Nat} (ho : okp i ex = true) (h : one k pc ls stk σ i nx ex = some (pc', ls', stk', σ')) (hw : Wf σ) : Wf σ' := by
  unfold one at h
  split at h
  · cases h; exact hw
  · split at h
    · cases h; exact hw
    · split at h
      · rename_i hf
        cases h
        exact fld_wf ho hf hw
      · split at h
        · rename_i hf
          cases h
          exact arr_wf hf hw
        · split at h
          · rename_i hf
            cases h
            exact lib_wf hf hw
          · split at h
            · cases h; exact hw
            · cases h
theorem run_wf : ∀ (n d k pc : Nat) (ls stk : List IV) (σ : St) (v : Option IV) (σ' : St), run d n k pc ls stk σ = some (v, σ') → Wf σ → Wf σ' := by
  intro n
  induction n with
  | zero => intro d k pc ls stk σ v σ' h; cases h
  | succ n ih =>
    intro d k pc ls stk σ v σ' h hw
    rw [run] at h
    split at h
    · cases h
    · rename_i i nx ex hl
      have ho := look_okp hl
      split at h
      · rename_i hone
        exact ih _ _ _ _ _ _ _ _ h (one_wf ho hone hw)
      · split at h
        · cases h; exact hw
        · split at h
          · cases h
          · split at h
            · cases h
            · rename_i k' as rest _ _ d' 
              cases hb : Nat.ble (exps as).length (mL k') with
              | false => rw [hb] at h; cases h
              | true =>
                rw [hb] at h
                simp only [cond_true] at h
                split at h
                · cases h
                · rename_i hc
                  exact ih _ _ _ _ _ _ _ _ h (ih _ _ _ _ _ _ _ _ hc hw)
theorem exec_wf {d k pc : Nat} {ls stk : List IV} {σ σ' : St} {v : Option IV} (h : exec d k pc ls stk σ = some (v, σ')) (hw : Wf σ) : Wf σ' := by
  obtain ⟨n, hn⟩ := exec_iff.mp h
  exact run_wf _ _ _ _ _ _ _ _ _ hn hw
theorem call_wf {d k : Nat} {as : List IV} {σ σ' : St} {v : Option IV} (h : call d k as σ = some (v, σ')) (hw : Wf σ) : Wf σ' := exec_wf h hw

def wsK (k : Nat) : List Jvm.Cond := Jvm.Cond.code (mY k) (mB k) (mM k) (mR k) :: TB
def rmK (d : Nat) : Room := { frames := d + 10, cells := 0, slots := 0, locals := 400 + 40 * d }
def HWK (ad : Nat → Nat → Nat) (cI cO : ClassId) (D : va_G) (A : Nat → Prop) (L : Nat) (xs : Nat → Int32) (σ : St) : State → Prop := fun U => HW ad cI cO D A L xs σ U.heap ∧ va_K D wcl (wtys cI cO) U ∧ RO ad A L xs U U.heap
def PcK (ad : Nat → Nat → Nat) (cI cO : ClassId) (D : va_G) (A : Nat → Prop) (L : Nat) (xs : Nat → Int32) (as : List IV) (σ : St) : Array Value → State → Prop := va_Pc (as.map (mp ad)) (HWK ad cI cO D A L xs σ)
def QcK (ad : Nat → Nat → Nat) (cI cO : ClassId) (D : va_G) (A : Nat → Prop) (L : Nat) (xs : Nat → Int32) (v : Option IV) (σ' : St) : Array Value → State → Outcome → State → Prop := fun _ st oc t => oc = .returned (v.map (mp ad)) ∧ HW ad cI cO D A L xs σ' t.heap ∧ va_F A st t
section CALLG
variable {p : Program} {l : Launch} {e : Env} {R : Room} {s : State} {m : MethodId} {args : Array Value} {below : List Frame} {meth : Method} {c : Code} {H : Heap} {locs : List Loc} {cells slots : Nat} {Q : State → Prop}
variable {ad : Nat → Nat → Nat} {pc : Nat} {Ls : Array Slot} {D : va_G} {A : Nat → Prop} {cI cO : ClassId} {L : Nat} {xs : Nat → Int32} {σ' : St} {v : Option IV} {st0 rest : List Value} {a : Array Value}
theorem w_call (hr : va_Run p l e R s m args below meth c H locs cells slots 0 0 (F0 m pc Ls st0) rest (QcK ad cI cO D A L xs v σ' a) A) (hS : va_S A s.heap H locs)
    (kk : ∀ (H' : Heap) (locs' : List Loc), HW ad cI cO D A L xs σ' H' → va_S A s.heap H' locs' → W p l e R s m args below meth c H' locs' cells slots Q (F0 m (pc + 3) Ls ((v.map (mp ad)).toList ++ rest))) : W p l e R s m args below meth c H locs cells slots Q (F0 m pc Ls st0) := by
  intro T hT X
  obtain ⟨w, st₀, t, T', L', h0, X', hL, e1, e2, ⟨hw, hb, hz, hk⟩, st⟩ := hr T hT X
  cases hw
  rw [h0] at hz hk
  obtain ⟨t2, a1, b1⟩ := kk T'.heap (locs ++ L') (by rw [e1]; exact hb) ⟨Nat.le_trans hS.1 (by rw [e1]; exact hz), fun q h1 h2 => by rw [e1, hk q (Nat.lt_of_lt_of_le h1 hS.1) h2]; exact hS.2.1 q h1 h2, fun q hq => by
      rcases List.mem_append.mp hq with h | h
      · exact hS.2.2 q h
      · exact hL q h⟩ T' rfl X'
  exact ⟨t2, st t2 a1, b1⟩
end CALLG
theorem blindK {ad : Nat → Nat → Nat} {cI cO : ClassId} {D : va_G} {A : Nat → Prop} {L : Nat} {xs : Nat → Int32} {as : List IV} {σ : St} : FrameBlind (PcK ad cI cO D A L xs as σ) := by
  rintro a U g mk ⟨h1, h2, h3, h4⟩
  exact ⟨h1, h2, va_K.moved (u := U) (U := U.calling g mk a) (Vm.Alike.refl U.vm) h3, RO.same (u := U) (U := U.calling g mk a) rfl h4⟩
theorem goodK {k k' : Nat} (h : (Jvm.Cond.code (mY k) (mB k) (mM k) (mR k)) ∈ TB) : GoodIn TB (wsK k) := by
  intro w hw
  rcases List.mem_cons.mp hw with rfl | hw
  · exact ⟨h, good_of_word (tb_good h)⟩
  · exact ⟨hw, good_of_word (tb_good hw)⟩
theorem take_rev {n : Nat} {stk : List IV} : stk = ((stk.take n).reverse).reverse ++ stk.drop n := by rw [List.reverse_reverse, List.take_append_drop]
theorem virB_inv {own : String} {j k n a b T : Nat} {tl : List Nat} (h : virB own j (10 :: k :: n :: a :: b :: T :: tl) = true) : (Jvm.Cond.methodLink own j (mY k)) ∈ TB ∧ n = mN k + 1 ∧ mS k = false ∧ k < mtab.length ∧ rcvB T (mY k).cls = true := by
  match a, tl, h with
  | 0, [], h =>
    simp only [virB, Bool.and_eq_true, decide_eq_true_eq] at h
    exact ⟨wAt_tb h.1, h.2.1, h.2.2.1, h.2.2.2.1, h.2.2.2.2⟩
  | 0, _ :: _, h => simp [virB] at h
  | _ + 1, _, h => simp [virB] at h
theorem stcB_inv {own : String} {j k n : Nat} {tl : List Nat} (h : stcB own j (11 :: k :: n :: tl) = true) : ((Jvm.Cond.methodLink own j (mY k)) ∈ TB ∨ (Jvm.Cond.methodLinkNest own j (mY k) RX6) ∈ nestWs) ∧ n = mN k ∧ mS k = true ∧ k < mtab.length := by
  match tl, h with
  | [z, p], h =>
    simp only [stcB, Bool.and_eq_true, decide_eq_true_eq] at h
    refine ⟨?_, h.2.1, h.2.2.1, h.2.2.2⟩
    have h1 := h.1
    split at h1
    · exact Or.inl (wAt_tb h1)
    · exact Or.inr (nAt_in h1)
  | [], h => simp [stcB] at h
  | [_], h => simp [stcB] at h
  | _ :: _ :: _ :: _, h => simp [stcB] at h
theorem mtab_len : mtab.length = 225 := by decide +kernel
/-- a call: what its numbers say -/
theorem inv_inv {own : String} {rt : Option FieldType} {pc : Nat} {i : Instr} {ex : List Nat} {stk as rest : List IV} {k : Nat} (hk : lnk own rt pc i ex = true) (h : inv i ex stk = some (k, as, rest)) :
    stk = as.reverse ++ rest ∧ rest.length ≤ 4 ∧ k < 225 ∧ ((∃ j T q as', i = .invokevirtual j ∧ as = vR T q :: as' ∧ (Jvm.Cond.methodLink own j (mY k)) ∈ TB ∧ as'.length = mN k ∧ mS k = false ∧ rcvB T (mY k).cls = true) ∨
      (∃ j, i = .invokestatic j ∧ ((Jvm.Cond.methodLink own j (mY k)) ∈ TB ∨ (Jvm.Cond.methodLinkNest own j (mY k) RX6) ∈ nestWs) ∧ as.length = mN k ∧ mS k = true)) := by
  cases i with
  | invokevirtual j =>
    replace hk : virB own j ex = true := hk
    simp only [inv] at h
    split at h
    · rename_i k' n a b T tl
      cases hc : (Nat.ble n stk.length && (Nat.ble (stk.drop n).length 4 && rcv T (stk.take n).reverse)) with
      | false => rw [hc] at h; cases h
      | true =>
        rw [hc] at h
        simp only [Bool.and_eq_true] at hc
        cases h
        obtain ⟨e1, e2, e3, e4, e5⟩ := virB_inv hk
        refine ⟨take_rev, Nat.ble_eq.mp hc.2.1, by rw [← mtab_len]; exact e4, Or.inl ?_⟩
        have hlen : ((stk.take n).reverse).length = n := by rw [List.length_reverse, List.length_take]; have := Nat.ble_eq.mp hc.1; omega
        have hr := hc.2.2
        revert hr hlen
        cases (stk.take n).reverse with
        | nil => intro _ hr; cases hr
        | cons x as' =>
          intro hlen hr
          obtain y | y | ⟨t, q⟩ | y := x
          · cases hr
          · cases hr
          · have et : t = T := beq_e hr
            subst et
            simp only [List.length_cons] at hlen
            exact ⟨j, t, q, as', rfl, rfl, e1, by omega, e3, e5⟩
          · cases hr
    · cases h
  | invokestatic j =>
    replace hk : stcB own j ex = true := hk
    simp only [inv] at h
    split at h
    · rename_i k' n tl
      cases hc : (Nat.ble n stk.length && Nat.ble (stk.drop n).length 4) with
      | false => rw [hc] at h; cases h
      | true =>
        rw [hc] at h
        simp only [Bool.and_eq_true] at hc
        cases h
        obtain ⟨e1, e2, e3, e4⟩ := stcB_inv hk
        refine ⟨take_rev, Nat.ble_eq.mp hc.2, by rw [← mtab_len]; exact e4, Or.inr ⟨j, rfl, e1, ?_, e3⟩⟩
        rw [List.length_reverse, List.length_take]
        have := Nat.ble_eq.mp hc.1
        omega
    · cases h
  | _ => simp [inv] at h
theorem rtn_ok {i : Instr} {ex : List Nat} {stk : List IV} {v : Option IV} (h : rtn i ex stk = some v) (h2 : ∀ x ∈ stk, okV x) : ∀ x, v = some x → okV x := by
  cases i with
  | ireturn =>
    simp only [rtn] at h
    split at h
    · cases h; intro x hx; cases hx; exact okV_i
    · split at h
      · cases h; intro x hx; cases hx; exact okV_i
      · cases h
    · split at h
      · cases h; intro x hx; cases hx; exact okV_i
      · cases h
    · cases h
  | lreturn =>
    simp only [rtn] at h
    split at h
    · cases h; intro x hx; cases hx; exact okV_l
    · cases h
  | areturn =>
    simp only [rtn] at h
    split at h
    · cases h; intro x hx; cases hx; exact h2 _ List.mem_cons_self
    · cases h
  | return_ =>
    simp only [rtn] at h
    split at h
    · cases h; intro x hx; cases hx
    · cases h
  | _ => simp [rtn] at h
theorem one_ok {own : String} {rt : Option FieldType} {k pc nx pc' : Nat} {i : Instr} {ex : List Nat} {ls stk ls' stk' : List IV} {σ σ' : St} (hk : lnk own rt pc i ex = true) (h : one k pc ls stk σ i nx ex = some (pc', ls', stk', σ')) (h1 : ∀ x ∈ ls, okV x) (h2 : ∀ x ∈ stk, okV x) : (∀ x ∈ ls', okV x) ∧ ∀ x ∈ stk', okV x := by
  unfold one at h
  cases ha : alu i ls stk with
  | some y => rw [ha] at h; cases h; exact alu_ok ha h1 h2
  | none =>
    rw [ha] at h
    dsimp only at h
    cases hd : dvs i stk with
    | some y => rw [hd] at h; cases h; exact ⟨h1, dvs_ok hd h2⟩
    | none =>
      rw [hd] at h
      dsimp only at h
      cases hf : fld i ex stk σ with
      | some y => rw [hf] at h; cases h; exact ⟨h1, fld_okV hk hf h2⟩
      | none =>
        rw [hf] at h
        dsimp only at h
        cases hr : arr i stk σ with
        | some y => rw [hr] at h; cases h; exact ⟨h1, arr_okV hr h2⟩
        | none =>
          rw [hr] at h
          dsimp only at h
          cases hb : lib i ex stk σ with
          | some y => rw [hb] at h; cases h; exact ⟨h1, lib_okV hb h2⟩
          | none =>
            rw [hb] at h
            dsimp only at h
            cases hj : jmp i ex nx stk with
            | some y => rw [hj] at h; cases h; exact ⟨h1, jmp_okV hj h2⟩
            | none => rw [hj] at h; cases h
theorem run_ok (hrb : ∀ k, k < 225 → mrowB k = true) : ∀ (n d k : Nat) (own : String) (cc : ByteArray) (rt : Option FieldType) (pc : Nat) (ls stk : List IV) (σ : St) (v : Option IV) (σ' : St), (codes.getD k []).all (rowB own cc rt) = true → (∀ x ∈ ls, okV x) → (∀ x ∈ stk, okV x) → run d n k pc ls stk σ = some (v, σ') → ∀ x, v = some x → okV x := by
  intro n
  induction n with
  | zero => intro d k own cc rt pc ls stk σ v σ' _ _ _ h; simp [run] at h
  | succ n ih =>
    intro d k own cc rt pc ls stk σ v σ' hrows h1 h2 h
    rw [run] at h
    cases hl : look k pc with
    | none => rw [hl] at h; cases h
    | some x =>
      obtain ⟨i, nx, ex⟩ := x
      rw [hl] at h
      dsimp only at h
      have hrow := row_of hrows hl
      simp only [rowB, Bool.and_eq_true, decide_eq_true_eq] at hrow
      have hlnk := hrow.2.2
      cases ho : one k pc ls stk σ i nx ex with
      | some y =>
        obtain ⟨pc', ls', stk', σ1⟩ := y
        rw [ho] at h
        have hok := one_ok hlnk ho h1 h2
        exact ih _ _ _ _ _ _ _ _ _ _ _ hrows hok.1 hok.2 h
      | none =>
        rw [ho] at h
        dsimp only at h
        cases hr : rtn i ex stk with
        | some w =>
          rw [hr] at h
          cases h
          exact rtn_ok hr h2
        | none =>
          rw [hr] at h
          dsimp only at h
          cases hi : inv i ex stk with
          | none => rw [hi] at h; cases h
          | some z =>
            obtain ⟨k', as, rest⟩ := z
            rw [hi] at h
            cases d with
            | zero => cases h
            | succ d' =>
              dsimp only at h
              cases hb : Nat.ble (exps as).length (mL k') with
              | false => rw [hb] at h; cases h
              | true =>
                rw [hb, cond_true] at h
                cases hc : run d' n k' 0 (ent (mL k') as) [] σ with
                | none => rw [hc] at h; cases h
                | some w =>
                  obtain ⟨v1, σ1⟩ := w
                  rw [hc] at h
                  dsimp only at h
                  obtain ⟨e1, -, e3, -⟩ := inv_inv hlnk hi
                  have has : ∀ x ∈ as, okV x := fun x hx => h2 x (by rw [e1]; exact List.mem_append_left _ (List.mem_reverse.mpr hx))
                  have hrest : ∀ x ∈ rest, okV x := fun x hx => h2 x (by rw [e1]; exact List.mem_append_right _ hx)
                  have hv1 := ih _ _ _ _ _ _ _ _ _ _ _ (hrb k' e3) (ent_ok has) (fun x hx => by cases hx) hc
                  refine ih _ _ _ _ _ _ _ _ _ _ _ hrows h1 (fun x hx => ?_) h
                  rcases List.mem_append.mp hx with hx | hx
                  · cases v1 with
                    | none => cases hx
                    | some y =>
                      rw [List.mem_singleton.mp hx]
                      exact hv1 y rfl
                  · exact hrest x hx
/-- what is to be shown of runs with n of fuel: the method returns as the reader says -/
def SND (ad : Nat → Nat → Nat) (cI cO : ClassId) (D : va_G) (A : Nat → Prop) (L : Nat) (xs : Nat → Int32) (n : Nat) : Prop :=
  ∀ (d k : Nat) (as : List IV) (σ σ' : St) (v : Option IV), k < 225 → (exps as).length ≤ mL k → (∀ x ∈ as, okV x) → run d n k 0 (ent (mL k) as) [] σ = some (v, σ') →
    ∀ l : Launch, Met l (mY k) (wsK k) (rmK d) (PcK ad cI cO D A L xs as σ) (QcK ad cI cO D A L xs v σ') 0 0 A
section MAIN
variable {ad : Nat → Nat → Nat} {cI cO : ClassId} {D : va_G} {A : Nat → Prop} {L : Nat} {xs : Nat → Int32}
theorem walk (hrb : ∀ k, k < 225 → mrowB k = true) (hmw : ∀ k, k < 225 → mwB k = true) (N : Nat) (IH : ∀ n, n < N → SND ad cI cO D A L xs n) {p : Program} {l : Launch} {e : Env} {R : Room} {s : State} {m : MethodId} {args : Array Value} {below : List Frame} {meth : Method} {c : Code} {cells slots : Nat} {Q : State → Prop} {cc : ByteArray} {own : String} {rt : Option FieldType} {k d nL : Nat} {v : Option IV} {σ' : St}
    (hx : p.tables.exec = Jvm.exec) (hb : c.code = cc) (hml : c.maxLocals = nL) (hown : s.vm.findClass own = some m.cls) (hts : ∀ w ∈ TB, w.before args s = true) (hK : va_K D wcl (wtys cI cO) s) (hR : RO ad A L xs s s.heap)
    (hrows : (codes.getD k []).all (rowB own cc rt) = true) (hroom : d + 10 ≤ R.frames ∧ 400 + 40 * d ≤ R.locals ∧ cells ≤ R.cells ∧ slots ≤ R.slots)
    (hret : ∀ (pc nx : Nat) (i : Instr) (ex : List Nat) (stk : List IV) (H : Heap) (locs : List Loc) (Ls : Array Slot), look k pc = some (i, nx, ex) → rtn i ex stk = some v → HW ad cI cO D A L xs σ' H → va_S A s.heap H locs → W p l e R s m args below meth c H locs cells slots Q (F0 m pc Ls (stk.map (mp ad)))) :
    ∀ n, n ≤ N → ∀ (pc : Nat) (ls stk : List IV) (σ : St) (H : Heap) (locs : List Loc) (Ls : Array Slot), LR ad Ls nL ls → (∀ x ∈ ls, okV x) → (∀ x ∈ stk, okV x) → HW ad cI cO D A L xs σ H → va_S A s.heap H locs → run d n k pc ls stk σ = some (v, σ') → W p l e R s m args below meth c H locs cells slots Q (F0 m pc Ls (stk.map (mp ad))) := by
  intro n
  induction n with
  | zero => intro _ pc ls stk σ H locs Ls _ _ _ _ _ h; simp [run] at h
  | succ n ih =>
    intro hn pc ls stk σ H locs Ls hL h1 h2 hW hS h
    replace ih := ih (by omega)
    rw [run] at h
    cases hl : look k pc with
    | none => rw [hl] at h; cases h
    | some x =>
      obtain ⟨i, nx, ex⟩ := x
      rw [hl] at h
      dsimp only at h
      have hrow := row_of hrows hl
      simp only [rowB, Bool.and_eq_true, decide_eq_true_eq] at hrow
      obtain ⟨hdec, hnx, hlnk⟩ := hrow
      have hnx' : isSw i = true ∨ nx = pc + ilen i := by
        simp only [Bool.or_eq_true, decide_eq_true_eq] at hnx
        exact hnx
      have hLs : Ls.size = nL := hL.2.1
      cases ho : one k pc ls stk σ i nx ex with
      | some y =>
        obtain ⟨pc', ls', stk', σ1⟩ := y
        rw [ho] at h
        dsimp only at h
        have hok := one_ok hlnk ho h1 h2
        unfold one at ho
        cases ha : alu i ls stk with
        | some y =>
          rw [ha] at ho
          cases ho
          have hsw : isSw i = false := by cases i <;> first | rfl | simp [alu] at ha
          rw [hsw] at hdec hnx'
          have hnx2 : nx = pc + ilen i := hnx'.elim (fun z => by cases z) id
          have key := fun (Ls' : Array Slot) (hL' : LR ad Ls' nL _) => ih nx _ _ σ H locs Ls' hL' hok.1 hok.2 hW hS h
          rw [hnx2] at key
          exact w_alu hx hb hdec hL ha key
        | none =>
          rw [ha] at ho
          dsimp only at ho
          cases hdv : dvs i stk with
          | some z =>
            rw [hdv] at ho
            cases ho
            have hsw : isSw i = false := by cases i <;> first | rfl | simp [dvs] at hdv
            rw [hsw] at hdec hnx'
            have hnx2 : nx = pc + ilen i := hnx'.elim (fun z => by cases z) id
            have key := ih nx ls _ σ H locs Ls hL h1 hok.2 hW hS h
            rw [hnx2] at key
            exact w_dvs hx hb hdec hdv key
          | none =>
            rw [hdv] at ho
            dsimp only at ho
            cases hf : fld i ex stk σ with
            | some z =>
              rw [hf] at ho
              cases ho
              have hsw : isSw i = false := by cases i <;> first | rfl | simp [fld] at hf
              rw [hsw] at hdec hnx'
              have hnx2 : nx = pc + ilen i := hnx'.elim (fun z => by cases z) id
              have key := fun (H' : Heap) (locs' : List Loc) (a1 : HW ad cI cO D A L xs _ H') (a2 : va_S A s.heap H' locs') => ih nx ls _ _ H' locs' Ls hL h1 hok.2 a1 a2 h
              rw [hnx2] at key
              exact w_fld hx hb hown hts hK hR hS hW hdec hlnk h2 hf key
            | none =>
              rw [hf] at ho
              dsimp only at ho
              cases hr : arr i stk σ with
              | some z =>
                rw [hr] at ho
                cases ho
                have hsw : isSw i = false := by cases i <;> first | rfl | simp [arr] at hr
                rw [hsw] at hdec hnx'
                have hnx2 : nx = pc + ilen i := hnx'.elim (fun z => by cases z) id
                have key := fun (H' : Heap) (locs' : List Loc) (a1 : HW ad cI cO D A L xs _ H') (a2 : va_S A s.heap H' locs') => ih nx ls _ _ H' locs' Ls hL h1 hok.2 a1 a2 h
                rw [hnx2] at key
                exact w_arr hx hb hK hR hS hW hdec h2 hr key
              | none =>
                rw [hr] at ho
                dsimp only at ho
                cases hlb : lib i ex stk σ with
                | some z =>
                  rw [hlb] at ho
                  cases ho
                  have hsw : isSw i = false := by cases i <;> first | rfl | simp [lib] at hlb
                  rw [hsw] at hdec hnx'
                  have hnx2 : nx = pc + ilen i := hnx'.elim (fun z => by cases z) id
                  have key := fun (H' : Heap) (locs' : List Loc) (a1 : HW ad cI cO D A L xs _ H') (a2 : va_S A s.heap H' locs') => ih nx ls _ _ H' locs' Ls hL h1 hok.2 a1 a2 h
                  rw [hnx2] at key
                  exact w_lib hx hb (hml.trans hLs.symm) hown hts hK hS hW ⟨by omega, by omega, hroom.2.2.1, hroom.2.2.2⟩ hdec hlnk h2 hlb key
                | none =>
                  rw [hlb] at ho
                  dsimp only at ho
                  cases hj : jmp i ex nx stk with
                  | none => rw [hj] at ho; cases ho
                  | some z =>
                    rw [hj] at ho
                    cases ho
                    exact w_jmp hx hb hdec hnx' hlnk hj (ih _ ls _ σ H locs Ls hL h1 hok.2 hW hS h)
      | none =>
        rw [ho] at h
        dsimp only at h
        cases hr : rtn i ex stk with
        | some w =>
          rw [hr] at h
          cases h
          exact hret pc nx i ex stk H locs Ls hl hr hW hS
        | none =>
          rw [hr] at h
          dsimp only at h
          cases hi : inv i ex stk with
          | none => rw [hi] at h; cases h
          | some z =>
            obtain ⟨k', as, rest⟩ := z
            rw [hi] at h
            cases d with
            | zero => cases h
            | succ d' =>
              dsimp only at h
              cases hbl : Nat.ble (exps as).length (mL k') with
              | false => rw [hbl] at h; cases h
              | true =>
                rw [hbl, cond_true] at h
                cases hc : run d' n k' 0 (ent (mL k') as) [] σ with
                | none => rw [hc] at h; cases h
                | some w =>
                  obtain ⟨v1, σ1⟩ := w
                  rw [hc] at h
                  dsimp only at h
                  obtain ⟨e1, e2, e3, e4⟩ := inv_inv hlnk hi
                  have has : ∀ x ∈ as, okV x := fun x hx => h2 x (by rw [e1]; exact List.mem_append_left _ (List.mem_reverse.mpr hx))
                  have hrest : ∀ x ∈ rest, okV x := fun x hx => h2 x (by rw [e1]; exact List.mem_append_right _ hx)
                  have hv1 := run_ok hrb _ _ _ _ _ _ _ _ _ _ _ _ (hrb k' e3) (ent_ok has) (fun x hx => by cases hx) hc
                  have hstk' : ∀ x ∈ v1.toList ++ rest, okV x := fun x hx => by
                    rcases List.mem_append.mp hx with hx | hx
                    · cases v1 with
                      | none => cases hx
                      | some y =>
                        rw [List.mem_singleton.mp hx]
                        exact hv1 y rfl
                    · exact hrest x hx
                  have hsw : isSw i = false := by cases i <;> first | rfl | simp [inv] at hi
                  rw [hsw] at hdec hnx'
                  have hnx2 : nx = pc + ilen i := hnx'.elim (fun z => by cases z) id
                  have hM := IH n (by omega) d' k' as σ σ1 v1 e3 (Nat.ble_eq.mp hbl) has hc l
                  obtain ⟨w1, w2, w3, w4, w5, w6, w7, w8, w9⟩ := mw_inv (hmw k' e3)
                  have key := fun (H' : Heap) (locs' : List Loc) (a1 : HW ad cI cO D A L xs σ1 H') (a2 : va_S A s.heap H' locs') => ih nx ls (v1.toList ++ rest) σ1 H' locs' Ls hL h1 hstk' a1 a2 h
                  have emap : (v1.toList ++ rest).map (mp ad) = (v1.map (mp ad)).toList ++ rest.map (mp ad) := by cases v1 <;> simp
                  rw [hnx2, emap] at key
                  have hPre : ∀ U : State, U.heap = H → s.WarmedH U.vm → PcK ad cI cO D A L xs as σ (as.map (mp ad)).toArray U := fun U hU hWm =>
                    ⟨rfl, by rw [hU]; exact hW, va_K.moved hWm.alike hK, by rw [hU]; exact RO.warm hWm (hR.kept hS.1 hS.2.1)⟩
                  have hstack : stk.map (mp ad) = (as.map (mp ad)).reverse ++ rest.map (mp ad) := by rw [e1, List.map_append, List.map_reverse]
                  have hsum := cat_sum (ad := ad) rest
                  have hcb : ∀ (nn : Nat), (parseMethodDescriptor (mY k').desc).map (fun d => d.parameters.length) = some nn → ∀ sig, parseMethodDescriptor (mY k').desc = some sig → nn = sig.parameters.length := fun nn hnn sig hsig => by
                    rw [hsig] at hnn
                    exact (Option.some.inj hnn).symm
                  have hG := goodK (k := k') (k' := k') w1
                  have hrf : (rmK d').frames + 1 ≤ R.frames := by show d' + 10 + 1 ≤ _; omega
                  have hrl : 8 + (mM k' + 11) + (rmK d').locals ≤ R.locals := by show 8 + (mM k' + 11) + (400 + 40 * d') ≤ _; omega
                  rcases e4 with ⟨j, T, q, as', rfl, rfl, g1, g2, g3, g4⟩ | ⟨j, rfl, g1, g2, g3⟩
                  · have hq := has _ List.mem_cons_self
                    have hrecv : ∃ cellB : Cell, H[ad T q]? = some cellB ∧ cellB.vm.isStatics = false ∧ s.vm.findClass (mY k').cls = some cellB.cls := by
                      unfold rcvB at g4
                      cases hw : wcl[T]? with
                      | none =>
                        rw [hw] at g4
                        simp only [Bool.and_eq_true, decide_eq_true_eq] at g4
                        obtain ⟨rfl, hcl⟩ := g4
                        obtain ⟨rfl, -⟩ := okR_0 hq (by decide)
                        rw [hcl]
                        obtain ⟨cell, k1, k2, k3, -⟩ := hR.2.1.2.2.1.kept hS.2.1
                        exact ⟨cell, k1, k2, k3⟩
                      | some y =>
                        obtain ⟨C', F, NN⟩ := y
                        rw [hw] at g4
                        simp only [decide_eq_true_eq] at g4
                        obtain ⟨-, -, -, -, h8⟩ := wcl_ok hw
                        obtain ⟨i0, hi1, hi2⟩ := wld_get (ad := ad) (cI := cI) (cO := cO) (σ := σ) (okR_w hq (by omega))
                        rw [pic_obj h8] at hi2
                        have := va_recv hK hW.1 hw hi2
                        rw [← g4]
                        exact this
                    have hcw : CallW R s args own (mY k').cls j (mY k') (mB k') (mM k') (mR k') (wsK k') (rmK d') 0 0 (mN k') :=
                      ⟨⟨rfl, rfl, hrf, hrl, pay_in hts hG, List.mem_cons_self, hts _ w1, hts _ w2, w6, hcb _ w7, hts _ g1⟩, hts _ (w4 g3).1, hts _ (w4 g3).2⟩
                    exact w_call (va_runV (As := as'.map (mp ad)) (rest := rest.map (mp ad)) ⟨hx, hb, hml, hown, hts⟩ hM hcw ⟨blindK, hrecv, hPre⟩ rfl (by rw [List.length_map]; exact g2) hLs (by rw [hstack]; simp [mp, vR]) (lv_room (by omega)) hdec ⟨by omega, by omega⟩) hS key
                  · rcases g1 with g1 | g1
                    · have hcw : CallB R s args own j (mY k') (mB k') (mM k') (mR k') (wsK k') (rmK d') 0 0 (mN k') ∧ (Jvm.Cond.static (mY k')).before args s = true :=
                        ⟨⟨rfl, rfl, hrf, hrl, pay_in hts hG, List.mem_cons_self, hts _ w1, hts _ w2, w6, hcb _ w7, hts _ g1⟩, hts _ (w3 g3)⟩
                      exact w_call (va_runS (As := as.map (mp ad)) (rest := rest.map (mp ad)) ⟨hx, hb, hml, hown, hts⟩ hM hcw ⟨blindK, hPre⟩ rfl (by rw [List.length_map]; exact g2) hLs hstack (lv_room (by omega)) hdec ⟨by omega, by omega⟩) hS key
                    · have hcw : va_CN R s args own j (mY k') RX6 (mB k') (mM k') (mR k') (wsK k') (rmK d') 0 0 (mN k') ∧ (Jvm.Cond.static (mY k')).before args s = true ∧ True :=
                        ⟨⟨⟨rfl, rfl, hrf, hrl, pay_in hts hG, List.mem_cons_self⟩, hts _ w1, hts _ w2, w6, hcb _ w7, va_Nw.use rfl (hR.2.2.2 _ g1)⟩, hts _ (w3 g3), trivial⟩
                      exact w_call (va_runSN (As := as.map (mp ad)) (rest := rest.map (mp ad)) ⟨hx, hb, hml, hown, hts⟩ hM hcw ⟨blindK, hPre⟩ rfl (by rw [List.length_map]; exact g2) hLs hstack (lv_room (by omega)) hdec ⟨by omega, by omega⟩) hS key
theorem snd_all (hrb : ∀ k, k < 225 → mrowB k = true) (hmw : ∀ k, k < 225 → mwB k = true) : ∀ n, SND ad cI cO D A L xs n := by
  intro n
  induction n using Nat.strongRecOn with
  | _ n IH =>
    intro d k as σ σ' v hk hlen has h l
    obtain ⟨w1, w2, w3, w4, w5, w6, w7, w8, w9⟩ := mw_inv (hmw k hk)
    refine Met.ofW (cc := mB k) (maxL := mM k) (ret := mR k) w5 rfl ?_
    intro p e s m args below meth c s₁ B hml hv
    obtain ⟨rfl, hW, hK, hR⟩ := hv
    have hts0 := atoms_spec (ws := wsK k) B.pre
    have hts : ∀ w ∈ TB, w.before (as.map (mp ad)).toArray s = true := fun w hw => hts0 w (List.mem_cons_of_mem _ hw)
    have hlocks := B.notSynchronized
    have hb := B.bytes
    have hr := B.returns
    rw [lg_entry_eq]
    have hL := ent_LR (ad := ad) (n := mM k) (as := as) (by rw [w8]; exact hlen)
    rw [w8] at hL hml ⊢
    refine walk hrb hmw n (fun n' h' => IH n' h') (rt := mR k) (d := d) (v := v) (σ' := σ') B.exec hb hml (findClass_of_methodNamed B.named) hts hK hR (hrb k hk) ⟨Nat.le_refl _, Nat.le_refl _, Nat.le_refl _, Nat.le_refl _⟩ ?_ n (Nat.le_refl _) 0 (ent (mL k) as) [] σ s.heap [] _ hL (ent_ok has) (fun x hx => by cases hx) hW va_S.rf h
    intro pc nx i ex stk H locs Ls hl hrt hW' hS'
    have hrow := row_of (hrb k hk) hl
    simp only [rowB, Bool.and_eq_true, decide_eq_true_eq] at hrow
    obtain ⟨hdec, -, hlnk⟩ := hrow
    have hq : ∀ t : State, t.heap = H → s.WarmedH t.vm → QcK ad cI cO D A L xs v σ' (as.map (mp ad)).toArray s (.returned (v.map (mp ad))) t := fun t ht _ => ⟨rfl, by rw [ht]; exact hW', hS'.F ht⟩
    cases i with
    | ireturn =>
      replace hlnk : retB (mR k) ex = true := hlnk
      simp only [rtn] at hrt
      split at hrt
      · rename_i tl x
        cases hrt
        have hty : mR k = some .int := by
          match tl, hlnk with
          | [], hlnk => simpa [retB] using hlnk
          | _ :: _, hlnk => simp [retB] at hlnk
        exact W.zret (ty := .int) B.exec hb (by rw [hr, hty]) rfl hq hS'.2.2 hdec
      · rename_i tl x
        split at hrt
        · rename_i h01
          cases hrt
          have hty : mR k = some .boolean := by
            match tl, hlnk with
            | [], hlnk => simpa [retB] using hlnk
            | _ :: _, hlnk => simp [retB] at hlnk
          exact W.zret (ty := .boolean) B.exec hb (by rw [hr, hty]) (by rcases h01 with h | h <;> (subst h; decide +kernel)) hq hS'.2.2 hdec
        · cases hrt
      · rename_i tl x
        split at hrt
        · rename_i h01
          cases hrt
          have hty : mR k = some .byte := by
            match tl, hlnk with
            | [], hlnk => simpa [retB] using hlnk
            | _ :: _, hlnk => simp [retB] at hlnk
          exact W.zret (ty := .byte) B.exec hb (by rw [hr, hty]) (by subst h01; decide +kernel) hq hS'.2.2 hdec
        · cases hrt
      · cases hrt
    | lreturn =>
      simp only [rtn] at hrt
      split at hrt
      · cases hrt
        have hty : mR k = some .long := by simpa [lnk] using hlnk
        exact W.lret B.exec hb (by rw [hr, hty]) hq hS'.2.2 hdec
      · cases hrt
    | areturn =>
      simp only [rtn] at hrt
      split at hrt
      · cases hrt
        have hty : mR k = some (.object RX5) := by simpa [lnk] using hlnk
        exact W.aret (rt := .object RX5) B.exec hb (by rw [hr, hty]) (Or.inl ⟨_, rfl⟩) (Or.inr ⟨_, rfl⟩) hq hS'.2.2 hdec
      · cases hrt
    | return_ =>
      simp only [rtn] at hrt
      split at hrt
      · cases hrt
        have hty : mR k = none := by simpa [lnk] using hlnk
        exact W.vret B.exec hb (by rw [hr, hty]) hq hS'.2.2 hdec
      · cases hrt
    | _ => simp [rtn] at hrt
end MAIN

theorem getB_0 {own : String} {j T k : Nat} {tl : List Nat} (h : getB own j (0 :: T :: k :: tl) = true) : ∃ z p, fieldB own j T k z p = true ∧ (fkd T k).1 = 0 := by
  match tl, h with
  | [z, p], h => simp only [getB, Bool.and_eq_true, decide_eq_true_eq] at h; exact ⟨z, p, h.1, h.2⟩
  | [], h => simp [getB] at h
  | [_], h => simp [getB] at h
  | _ :: _ :: _ :: _, h => simp [getB] at h
theorem getB_1 {own : String} {j T k a b T' m : Nat} {tl : List Nat} (h : getB own j (1 :: T :: k :: a :: b :: T' :: m :: tl) = true) : ∃ z p, fieldB own j T k z p = true ∧ fkd T k = (1, T', m) := by
  match tl, h with
  | [], h => simp only [getB, Bool.and_eq_true, decide_eq_true_eq] at h; exact ⟨a, b, h.1, h.2⟩
  | _ :: _, h => simp [getB] at h
theorem getB_2 {own : String} {j T : Nat} {tl : List Nat} (h : getB own j (2 :: T :: tl) = true) : ∃ k z p, fieldB own j T k z p = true ∧ (fkd T k).1 = 2 := by
  match tl, h with
  | [k, z, p], h => simp only [getB, Bool.and_eq_true, decide_eq_true_eq] at h; exact ⟨k, z, p, h.1, h.2⟩
  | [], h => simp [getB] at h
  | [_], h => simp [getB] at h
  | [_, _], h => simp [getB] at h
  | _ :: _ :: _ :: _ :: _, h => simp [getB] at h
theorem getB_5a {own : String} {j : Nat} {tl : List Nat} (h : getB own j (5 :: 0 :: tl) = true) : (Jvm.Cond.fieldLink own j "java/lang/String" "value" "[B") ∈ TB := by
  match tl, h with
  | [63, p], h => exact wAt_tb (show wAt p _ = true from h)
  | [], h => simp [getB] at h
  | [_], h => simp [getB] at h
  | a :: b :: [], h =>
    by_cases e : a = 63
    · subst e; exact wAt_tb (show wAt b _ = true from h)
    · simp [getB, e] at h
  | _ :: _ :: _ :: _, h => simp [getB] at h
theorem getB_5b {own : String} {j : Nat} {tl : List Nat} (h : getB own j (5 :: 1 :: tl) = true) : (Jvm.Cond.fieldLink own j "java/lang/String" "coder" "B") ∈ TB := by
  match tl, h with
  | [], h => simp [getB] at h
  | [_], h => simp [getB] at h
  | a :: b :: [], h =>
    by_cases e : a = 0
    · subst e; exact wAt_tb (show wAt b _ = true from h)
    · simp [getB, e] at h
  | _ :: _ :: _ :: _, h => simp [getB] at h
theorem putB_0 {own : String} {j T k : Nat} {tl : List Nat} (h : putB own j (0 :: T :: k :: tl) = true) : ∃ z p, fieldB own j T k z p = true ∧ (fkd T k).1 = 0 ∧ fieldD T k "I" = true := by
  match tl, h with
  | [z, p], h => simp only [putB, Bool.and_eq_true, decide_eq_true_eq] at h; exact ⟨z, p, h.1, h.2.1, h.2.2⟩
  | [], h => simp [putB] at h
  | [_], h => simp [putB] at h
  | _ :: _ :: _ :: _, h => simp [putB] at h
theorem putB_3 {own : String} {j T k : Nat} {tl : List Nat} (h : putB own j (3 :: T :: k :: tl) = true) : ∃ z p, fieldB own j T k z p = true ∧ (fkd T k).1 = 0 ∧ fieldD T k "Z" = true := by
  match tl, h with
  | [z, p], h => simp only [putB, Bool.and_eq_true, decide_eq_true_eq] at h; exact ⟨z, p, h.1, h.2.1, h.2.2⟩
  | [], h => simp [putB] at h
  | [_], h => simp [putB] at h
  | _ :: _ :: _ :: _, h => simp [putB] at h
theorem putB_2 {own : String} {j T : Nat} {tl : List Nat} (h : putB own j (2 :: T :: tl) = true) : ∃ k z p, fieldB own j T k z p = true ∧ (fkd T k).1 = 2 ∧ fieldD T k "J" = true := by
  match tl, h with
  | [k, z, p], h => simp only [putB, Bool.and_eq_true, decide_eq_true_eq] at h; exact ⟨k, z, p, h.1, h.2.1, h.2.2⟩
  | [], h => simp [putB] at h
  | [_], h => simp [putB] at h
  | [_, _], h => simp [putB] at h
  | _ :: _ :: _ :: _ :: _, h => simp [putB] at h
theorem gstB_0 {own : String} {j v : Nat} {tl : List Nat} (h : gstB own j (0 :: v :: tl) = true) : v = 1 ∧ (Jvm.Cond.fieldLink own j "java/lang/String" "COMPACT_STRINGS" "Z") ∈ TB := by
  match tl, h with
  | [], h => simp [gstB] at h
  | [_], h => simp [gstB] at h
  | a :: b :: [], h =>
    by_cases e : v = 1
    · by_cases e2 : a = 0
      · subst e; subst e2; exact ⟨rfl, wAt_tb (show wAt b _ = true from h)⟩
      · simp [gstB, e2] at h
    · simp [gstB, e] at h
  | _ :: _ :: _ :: _, h => simp [gstB] at h
theorem gstB_1 {own : String} {j T : Nat} {tl : List Nat} (h : gstB own j (1 :: T :: tl) = true) : (T = 60 ∨ T = 61) ∧ ((Jvm.Cond.fieldLink own j RX6 (stN T) "[I") ∈ TB ∨ (Jvm.Cond.fieldLinkNest own j RX6 (stN T) "[I" RX6) ∈ nestWs) := by
  match tl, h with
  | [], h => simp [gstB] at h
  | [_], h => simp [gstB] at h
  | z :: p :: [], h =>
    simp only [gstB, Bool.and_eq_true, Bool.or_eq_true, decide_eq_true_eq] at h
    refine ⟨h.1, ?_⟩
    have h2 := h.2
    split at h2
    · exact Or.inl (wAt_tb h2)
    · exact Or.inr (nAt_in h2)
  | _ :: _ :: _ :: _, h => simp [gstB] at h
theorem ldcB_0 {own : String} {j v : Nat} {tl : List Nat} (h : ldcB own j (0 :: v :: tl) = true) : (Jvm.Cond.constant own j (Int32.ofNat v)) ∈ TB := by
  match tl, h with
  | [], h => simp [ldcB] at h
  | p :: [], h => exact wAt_tb (show wAt p _ = true from h)
  | _ :: _ :: _, h => simp [ldcB] at h
theorem ldcB_1 {own : String} {j T : Nat} {tl : List Nat} (h : ldcB own j (1 :: T :: tl) = true) : T = 62 ∧ own = RX2 ∧ j = 60 := by
  match tl, h with
  | [], h => simp [ldcB] at h
  | p :: [], h =>
    by_cases e : T = 62
    · subst e
      simp only [ldcB, Bool.and_eq_true, decide_eq_true_eq] at h
      exact ⟨rfl, h.1, h.2⟩
    · simp [ldcB, e] at h
  | _ :: _ :: _, h => simp [ldcB] at h
theorem ld2B_0 {own : String} {j v : Nat} {tl : List Nat} (h : ld2B own j (v :: tl) = true) : (Jvm.Cond.constantLong own j (Int64.ofNat v)) ∈ TB := by
  match tl, h with
  | [], h => simp [ld2B] at h
  | p :: [], h => exact wAt_tb (show wAt p _ = true from h)
  | _ :: _ :: _, h => simp [ld2B] at h
theorem hash_k : ∀ k, k < 43 → (fkd 7 k).1 = 2 → k = 42 := by decide +kernel
theorem beq_e {a b : Nat} (h : Nat.beq a b = true) : a = b := Nat.eq_of_beq_eq_true h
section WF
variable {p : Program} {l : Launch} {e : Env} {R : Room} {s : State} {m : MethodId} {args : Array Value} {below : List Frame} {meth : Method} {c : Code} {H : Heap} {locs : List Loc} {cells slots : Nat} {Q : State → Prop} {cc : ByteArray}
variable {ad : Nat → Nat → Nat} {pc : Nat} {Ls : Array Slot} {i : Instr} {own : String} {D : va_G} {A : Nat → Prop} {cI cO : ClassId} {L : Nat} {xs : Nat → Int32} {σ σ' : St} {stk stk' : List IV} {ex : List Nat}
theorem w_puti {j T k z q pz : Nat} {rest : List Value} {x : Int32} {d : String} {ty0 : FieldType} (hx : p.tables.exec = Jvm.exec) (hb : c.code = cc) (hown : s.vm.findClass own = some m.cls) (hts : ∀ w ∈ TB, w.before args s = true) (hK : va_K D wcl (wtys cI cO) s) (hR : RO ad A L xs s s.heap) (hS : va_S A s.heap H locs) (hW : HW ad cI cO D A L xs σ H)
    (hd : decode cc pc = .ok (.putfield j, 3)) (hf : fieldB own j T k z pz = true) (hk0 : (fkd T k).1 = 0) (hfd : fieldD T k d = true) (hpd : parseFieldDescriptor d = some ty0) (hn : narrow ty0 (.int x) = .int x) (hft : fits ty0 (.int x) = true) (hc : (T, q) ∈ wcells)
    (kk : ∀ (H' : Heap) (locs' : List Loc), HW ad cI cO D A L xs (se σ T q k x) H' → va_S A s.heap H' locs' → W p l e R s m args below meth c H' locs' cells slots Q (F0 m (pc + 3) Ls rest)) : W p l e R s m args below meth c H locs cells slots Q (F0 m pc Ls (.int x :: .ref (ad T q) :: rest)) := by
  refine w_putf hx hb hown hts hK hR hS hW hd hf hfd hpd hn hft hc (range_set (fun _ => ?_) (fun i _ hi => fv_upd hi)) (fun c _ hc => pic_sw hc) rfl kk
  rw [fv_int hk0, ar_se, pk_us]
theorem w_fld {rt : Option FieldType} (hx : p.tables.exec = Jvm.exec) (hb : c.code = cc) (hown : s.vm.findClass own = some m.cls) (hts : ∀ w ∈ TB, w.before args s = true) (hK : va_K D wcl (wtys cI cO) s) (hR : RO ad A L xs s s.heap) (hS : va_S A s.heap H locs) (hW : HW ad cI cO D A L xs σ H)
    (hd : decode cc pc = .ok (i, ilen i)) (hk : lnk own rt pc i ex = true) (hv : ∀ v ∈ stk, okV v) (ha : fld i ex stk σ = some (stk', σ'))
    (kk : ∀ (H' : Heap) (locs' : List Loc), HW ad cI cO D A L xs σ' H' → va_S A s.heap H' locs' → W p l e R s m args below meth c H' locs' cells slots Q (F0 m (pc + ilen i) Ls (stk'.map (mp ad)))) : W p l e R s m args below meth c H locs cells slots Q (F0 m pc Ls (stk.map (mp ad))) := by
  cases i with
  | getfield j =>
    replace hk : getB own j ex = true := hk
    simp only [fld] at ha
    split at ha
    · rename_i T k tl t q r
      cases hb' : Nat.beq t T with
      | false => rw [hb'] at ha; cases ha
      | true =>
        rw [hb'] at ha
        have e0 := beq_e hb'
        subst e0
        cases ha
        obtain ⟨z, pz, hf, h0⟩ := getB_0 hk
        obtain ⟨C, F, N, hw, -⟩ := fieldB_inv hf
        have hc : (t, q) ∈ wcells := okR_w (hv _ List.mem_cons_self) (by have := (wcl_ok hw).2.2.2.2; omega)
        exact w_getf hx hb hown hts hK hR hW hd hf hc (fv_int h0) (kk H locs hW hS)
    · rename_i T k a b T' zz tl t q r
      cases hb' : Nat.beq t T with
      | false => rw [hb'] at ha; cases ha
      | true =>
        rw [hb'] at ha
        have e0 := beq_e hb'
        subst e0
        cases ha
        obtain ⟨z, pz, hf, h0⟩ := getB_1 hk
        obtain ⟨C, F, N, hw, -⟩ := fieldB_inv hf
        have hc : (t, q) ∈ wcells := okR_w (hv _ List.mem_cons_self) (by have := (wcl_ok hw).2.2.2.2; omega)
        exact w_getf hx hb hown hts hK hR hW hd hf hc (fv_ref h0) (kk H locs hW hS)
    · rename_i T tl t q r
      cases hb' : Nat.beq t T with
      | false => rw [hb'] at ha; cases ha
      | true =>
        rw [hb'] at ha
        have e0 := beq_e hb'
        subst e0
        cases ha
        obtain ⟨k, z, pz, hf, h0⟩ := getB_2 hk
        obtain ⟨C, F, N, hw, -⟩ := fieldB_inv hf
        have hc : (t, q) ∈ wcells := okR_w (hv _ List.mem_cons_self) (by have := (wcl_ok hw).2.2.2.2; omega)
        exact w_getf hx hb hown hts hK hR hW hd hf hc (fv_long h0) (kk H locs hW hS)
    · rename_i tl q r
      cases ha
      have hq := (okR_0 (hv _ List.mem_cons_self) (by decide)).1
      subst hq
      exact vk_getf hx hb hR.2.1.2.2.2.2.1 hS hown (hts _ (getB_5a hk)) (fun _ h => h) hd (kk H locs hW hS)
    · rename_i tl q r
      cases ha
      have hq := (okR_0 (hv _ List.mem_cons_self) (by decide)).1
      subst hq
      exact vk_getf hx hb hR.2.1.2.2.2.1 hS hown (hts _ (getB_5b hk)) (fun _ h => h) hd (kk H locs hW hS)
    · cases ha
  | putfield j =>
    replace hk : putB own j ex = true := hk
    simp only [fld] at ha
    split at ha
    · rename_i T k tl x t q r
      cases hb' : Nat.beq t T with
      | false => rw [hb'] at ha; cases ha
      | true =>
        rw [hb'] at ha
        have e0 := beq_e hb'
        subst e0
        cases ha
        obtain ⟨z, pz, hf, h0, h1⟩ := putB_0 hk
        obtain ⟨C, F, N, hw, -⟩ := fieldB_inv hf
        have hc : (t, q) ∈ wcells := okR_w (hv _ (List.mem_cons_of_mem _ List.mem_cons_self)) (by have := (wcl_ok hw).2.2.2.2; omega)
        exact w_puti hx hb hown hts hK hR hS hW hd hf h0 h1 (ty0 := .int) (by decide +kernel) rfl rfl hc kk
    · rename_i T tl x t q r
      cases hb' : Nat.beq t T with
      | false => rw [hb'] at ha; cases ha
      | true =>
        rw [hb'] at ha
        have e0 := beq_e hb'
        subst e0
        cases ha
        obtain ⟨k, z, pz, hf, h0, h1⟩ := putB_2 hk
        obtain ⟨C, F, N, hw, hkN, -⟩ := fieldB_inv hf
        obtain ⟨-, -, -, hN, h8⟩ := wcl_ok hw
        have hc : (t, q) ∈ wcells := okR_w (hv _ (List.mem_cons_of_mem _ List.mem_cons_self)) (by omega)
        have h43 := nF_le t h8
        have h7 := fkd_long t h8 k (by omega) h0
        have hq := only7 _ hc h7
        simp only at hq
        subst h7
        subst hq
        have hk42 := hash_k k (by omega) h0
        refine w_putf (σ' := sh σ x) (v := .long x) hx hb hown hts hK hR hS hW hd hf h1 (ty0 := .long) (by decide +kernel) rfl rfl hc (range_set (fun _ => by rw [fv_long h0]; rfl) (fun i hi hne => ?_)) (fun c hc hne => pic_sh hc hne) rfl kk
        have hi2 : (fkd 7 i).1 ≠ 2 := fun z => hne ((hash_k i (by have := nF_le 7 (by decide); omega) z).trans hk42.symm)
        unfold fv
        rw [ar_sh]
        revert hi2
        cases fkd 7 i with
        | mk a b =>
          intro hi2
          match a, hi2 with
          | 0, _ => rfl
          | 1, _ => rfl
          | 2, hi2 => exact absurd rfl hi2
          | n + 3, _ => rfl
    · rename_i T k tl x t q r
      cases hb' : Nat.beq t T with
      | false => rw [hb'] at ha; cases ha
      | true =>
        rw [hb'] at ha
        have e0 := beq_e hb'
        subst e0
        simp only [cond_true] at ha
        split at ha
        · rename_i h01
          cases ha
          obtain ⟨z, pz, hf, h0, h1⟩ := putB_3 hk
          obtain ⟨C, F, N, hw, -⟩ := fieldB_inv hf
          have hc : (t, q) ∈ wcells := okR_w (hv _ (List.mem_cons_of_mem _ List.mem_cons_self)) (by have := (wcl_ok hw).2.2.2.2; omega)
          exact w_puti hx hb hown hts hK hR hS hW hd hf h0 h1 (ty0 := .boolean) (by decide +kernel) (by rcases h01 with h | h <;> (subst h; decide +kernel)) (by rcases h01 with h | h <;> (subst h; decide +kernel)) hc kk
        · cases ha
    · cases ha
  | getstatic j =>
    replace hk : gstB own j ex = true := hk
    simp only [fld] at ha
    split at ha
    · cases ha
      obtain ⟨e1, e2⟩ := gstB_0 hk
      subst e1
      exact va_gets hx hb hR.2.1.1 hS hown (hts _ e2) (fun _ h => h) hd (kk H locs hW hS)
    · rename_i T tl
      cases ha
      obtain ⟨e1, e2⟩ := gstB_1 hk
      have hZ : va_Z RX6 (stN T) "[I" (.ref (ad T 0)) A s s.heap := by
        rcases e1 with e1 | e1
        · subst e1; exact hR.1.1
        · subst e1; exact hR.1.2.2.1
      rcases e2 with e2 | e2
      · exact va_gets hx hb hZ hS hown (hts _ e2) (fun _ h => h) hd (kk H locs hW hS)
      · exact va_getsN hx hb hZ hS hown (va_Nw.use rfl (hR.2.2.2 _ e2)) (fun _ h => h) hd (kk H locs hW hS)
    · cases ha
  | ldc j =>
    replace hk : ldcB own j ex = true := hk
    simp only [fld] at ha
    split at ha
    · cases ha
      exact lv_ldc hx hb hown (hts _ (ldcB_0 hk)) hd (kk H locs hW hS)
    · cases ha
      obtain ⟨e1, e2, e3⟩ := ldcB_1 hk
      subst e1
      subst e2
      subst e3
      exact va_ldcS hx hb hown hR.2.1.2.1 hd (kk H locs hW hS)
    · cases ha
  | ldc_w j =>
    replace hk : (ldcB own j ex && decide (ex.length = 3) && decide (ex[0]? = some 0)) = true := hk
    simp only [Bool.and_eq_true] at hk
    simp only [fld] at ha
    split at ha
    · cases ha
      exact lv_ldcw hx hb hown (hts _ (ldcB_0 hk.1.1)) hd (kk H locs hW hS)
    · cases ha
  | ldc2_w j =>
    replace hk : ld2B own j ex = true := hk
    simp only [fld] at ha
    split at ha
    · cases ha
      exact lv_ldc2 hx hb hown (hts _ (ld2B_0 hk)) hd (kk H locs hW hS)
    · cases ha
  | _ => simp [fld] at ha
end WF

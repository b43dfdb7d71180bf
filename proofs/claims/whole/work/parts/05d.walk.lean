/-! A run of the reader is a run of the machine: the instructions that touch locals and stack alone. -/
theorem ldI_inv {ls stk ls' stk' : List IV} {k : Nat} (h : ldI ls stk k = some (ls', stk')) : ∃ x, ls[k]? = some (.inl x) ∧ ls' = ls ∧ stk' = vI x :: stk := by
  unfold ldI at h
  split at h
  · rename_i x e
    cases h
    exact ⟨x, e, rfl, rfl⟩
  · cases h
theorem ldR_inv {ls stk ls' stk' : List IV} {k : Nat} (h : ldR ls stk k = some (ls', stk')) : ∃ t q, ls[k]? = some (.inr (.inr (.inl (t, q)))) ∧ ls' = ls ∧ stk' = vR t q :: stk := by
  unfold ldR at h
  split at h
  · rename_i t q e
    cases h
    exact ⟨t, q, e, rfl, rfl⟩
  · cases h
theorem ldL_inv {ls stk ls' stk' : List IV} {k : Nat} (h : ldL ls stk k = some (ls', stk')) : ∃ x, ls[k]? = some (.inr (.inl x)) ∧ ls[k + 1]? = some (.inr (.inr (.inr ()))) ∧ ls' = ls ∧ stk' = vL x :: stk := by
  unfold ldL at h
  split at h
  · rename_i x e
    split at h
    · rename_i e2
      cases h
      exact ⟨x, e, e2, rfl, rfl⟩
    · cases h
  · cases h
theorem stI_inv {ls stk ls' stk' : List IV} {k : Nat} (h : stI ls stk k = some (ls', stk')) : ∃ x r, stk = .inl x :: r ∧ k < ls.length ∧ ls' = ls.set k (vI x) ∧ stk' = r := by
  unfold stI at h
  split at h
  · rename_i x r
    cases hb : Nat.blt k ls.length with
    | false => rw [hb] at h; cases h
    | true =>
      rw [hb] at h
      cases h
      exact ⟨x, _, rfl, Nat.ble_eq.mp hb, rfl, rfl⟩
  · cases h
theorem stR_inv {ls stk ls' stk' : List IV} {k : Nat} (h : stR ls stk k = some (ls', stk')) : ∃ t q r, stk = .inr (.inr (.inl (t, q))) :: r ∧ k < ls.length ∧ ls' = ls.set k (vR t q) ∧ stk' = r := by
  unfold stR at h
  split at h
  · rename_i t q r
    cases hb : Nat.blt k ls.length with
    | false => rw [hb] at h; cases h
    | true =>
      rw [hb] at h
      cases h
      exact ⟨t, q, _, rfl, Nat.ble_eq.mp hb, rfl, rfl⟩
  · cases h
theorem stL_inv {ls stk ls' stk' : List IV} {k : Nat} (h : stL ls stk k = some (ls', stk')) : ∃ x r, stk = .inr (.inl x) :: r ∧ k + 1 < ls.length ∧ ls' = (ls.set k (vL x)).set (k + 1) vN ∧ stk' = r := by
  unfold stL at h
  split at h
  · rename_i x r
    cases hb : Nat.blt (k + 1) ls.length with
    | false => rw [hb] at h; cases h
    | true =>
      rw [hb] at h
      cases h
      exact ⟨x, _, rfl, Nat.ble_eq.mp hb, rfl, rfl⟩
  · cases h
theorem icI_inv {ls stk ls' stk' : List IV} {k : Nat} {n : Int} (h : icI ls stk k n = some (ls', stk')) : ∃ x, ls[k]? = some (.inl x) ∧ ls' = ls.set k (vI (x + Int32.ofInt n)) ∧ stk' = stk := by
  unfold icI at h
  split at h
  · rename_i x e
    cases h
    exact ⟨x, e, rfl, rfl⟩
  · cases h
theorem op2_inv {f : Int32 → Int32 → Int32} {ls stk ls' stk' : List IV} (h : op2 f ls stk = some (ls', stk')) : ∃ y x r, stk = .inl y :: .inl x :: r ∧ ls' = ls ∧ stk' = vI (f x y) :: r := by
  unfold op2 at h
  split at h
  · cases h
    exact ⟨_, _, _, rfl, rfl, rfl⟩
  · cases h
theorem opL_inv {f : Int64 → Int64 → Int64} {ls stk ls' stk' : List IV} (h : opL f ls stk = some (ls', stk')) : ∃ y x r, stk = .inr (.inl y) :: .inr (.inl x) :: r ∧ ls' = ls ∧ stk' = vL (f x y) :: r := by
  unfold opL at h
  split at h
  · cases h
    exact ⟨_, _, _, rfl, rfl, rfl⟩
  · cases h
theorem dup_inv {ls stk ls' stk' : List IV} (h : alu .dup ls stk = some (ls', stk')) : ∃ a r, stk = a :: r ∧ cat1 a = true ∧ ls' = ls ∧ stk' = a :: a :: r := by
  cases stk with
  | nil => cases h
  | cons a r =>
    cases hc : cat1 a with
    | false => simp [alu, hc] at h
    | true =>
      simp [alu, hc] at h
      exact ⟨a, r, rfl, hc, h.1.symm, h.2.symm⟩
theorem pop_inv {ls stk ls' stk' : List IV} (h : alu .pop ls stk = some (ls', stk')) : ∃ a r, stk = a :: r ∧ cat1 a = true ∧ ls' = ls ∧ stk' = r := by
  cases stk with
  | nil => cases h
  | cons a r =>
    cases hc : cat1 a with
    | false => simp [alu, hc] at h
    | true =>
      simp [alu, hc] at h
      exact ⟨a, r, rfl, hc, h.1.symm, h.2.symm⟩
theorem dup2_inv {ls stk ls' stk' : List IV} (h : alu .dup2 ls stk = some (ls', stk')) : ∃ a b r, stk = a :: b :: r ∧ cat1 a = true ∧ cat1 b = true ∧ ls' = ls ∧ stk' = a :: b :: a :: b :: r := by
  cases stk with
  | nil => cases h
  | cons a r =>
    cases r with
    | nil => cases h
    | cons b r =>
      cases hc : cat1 a with
      | false => simp [alu, hc] at h
      | true =>
        cases hc2 : cat1 b with
        | false => simp [alu, hc, hc2] at h
        | true =>
          simp [alu, hc, hc2] at h
          exact ⟨a, b, r, rfl, hc, hc2, h.1.symm, h.2.symm⟩
theorem cat_mp {ad : Nat → Nat → Nat} {v : IV} (h : cat1 v = true) : (mp ad v).category = 1 := by
  obtain x | x | ⟨t, q⟩ | x := v
  · rfl
  · cases h
  · rfl
  · cases h
section WK
variable {p : Program} {l : Launch} {e : Env} {R : Room} {s : State} {m : MethodId} {args : Array Value} {below : List Frame} {meth : Method} {c : Code} {H : Heap} {locs : List Loc} {cells slots : Nat} {Q : State → Prop} {cc : ByteArray}
variable {ad : Nat → Nat → Nat} {n pc : Nat} {ls stk ls' stk' : List IV} {Ls : Array Slot} {i : Instr}
theorem w_alu (hx : p.tables.exec = Jvm.exec) (hb : c.code = cc) (hd : decode cc pc = .ok (i, ilen i)) (hL : LR ad Ls n ls) (ha : alu i ls stk = some (ls', stk'))
    (kk : ∀ Ls' : Array Slot, LR ad Ls' n ls' → W p l e R s m args below meth c H locs cells slots Q (F0 m (pc + ilen i) Ls' (stk'.map (mp ad)))) : W p l e R s m args below meth c H locs cells slots Q (F0 m pc Ls (stk.map (mp ad))) := by
  cases i with
  | iconst n =>
    cases ha
    exact lv_iconst hx hb hd rfl (kk Ls hL)
  | bipush n =>
    cases ha
    exact lv_bipush hx hb hd rfl (kk Ls hL)
  | sipush n =>
    cases ha
    exact lv_sipush hx hb hd rfl (kk Ls hL)
  | lconst n =>
    cases ha
    exact lv_lconst hx hb hd rfl (kk Ls hL)
  | iload_n k =>
    obtain ⟨x, e1, rfl, rfl⟩ := ldI_inv (show ldI ls stk _ = some _ from ha)
    exact lv_iload_n hx hb hd rfl (hL.at (claim_int e1)) (kk Ls hL)
  | iload k =>
    obtain ⟨x, e1, rfl, rfl⟩ := ldI_inv (show ldI ls stk _ = some _ from ha)
    exact lv_iload hx hb hd (hL.at (claim_int e1)) (kk Ls hL)
  | lload_n k =>
    obtain ⟨x, e1, e2, rfl, rfl⟩ := ldL_inv (show ldL ls stk _ = some _ from ha)
    exact lv_lload_n hx hb hd rfl (hL.at (claim_long e1 e2)) (kk Ls hL)
  | lload k =>
    obtain ⟨x, e1, e2, rfl, rfl⟩ := ldL_inv (show ldL ls stk _ = some _ from ha)
    exact lv_lload hx hb hd (hL.at (claim_long e1 e2)) (kk Ls hL)
  | aload_n k =>
    obtain ⟨t, q, e1, rfl, rfl⟩ := ldR_inv (show ldR ls stk _ = some _ from ha)
    exact lv_aload_n hx hb hd rfl (hL.at (claim_ref e1)) (kk Ls hL)
  | aload k =>
    obtain ⟨t, q, e1, rfl, rfl⟩ := ldR_inv (show ldR ls stk _ = some _ from ha)
    exact lv_aload hx hb hd (hL.at (claim_ref e1)) (kk Ls hL)
  | istore_n k =>
    obtain ⟨x, r, rfl, e1, rfl, rfl⟩ := stI_inv (show stI ls stk _ = some _ from ha)
    refine lv_istore_n hx hb hd rfl hL.2 (by rw [← hL.1]; exact e1) rfl (fun Ls' h' => kk Ls' ?_)
    exact LR.set1 hL.1 (by intro z; cases z) (fun q hq => (Option.some.inj ((claim_int (List.getElem?_set_self e1)).symm.trans hq)).symm) rfl h'
  | istore k =>
    obtain ⟨x, r, rfl, e1, rfl, rfl⟩ := stI_inv (show stI ls stk _ = some _ from ha)
    refine lv_istore hx hb hd hL.2 (by rw [← hL.1]; exact e1) rfl (fun Ls' h' => kk Ls' ?_)
    exact LR.set1 hL.1 (by intro z; cases z) (fun q hq => (Option.some.inj ((claim_int (List.getElem?_set_self e1)).symm.trans hq)).symm) rfl h'
  | lstore_n k =>
    obtain ⟨x, r, rfl, e1, rfl, rfl⟩ := stL_inv (show stL ls stk _ = some _ from ha)
    refine lv_lstore_n hx hb hd rfl hL.2 (by rw [← hL.1]; exact e1) rfl (fun Ls' h' => kk Ls' ?_)
    exact LR.set2 hL.1 (by rw [← hL.1]; exact e1) h'
  | lstore k =>
    obtain ⟨x, r, rfl, e1, rfl, rfl⟩ := stL_inv (show stL ls stk _ = some _ from ha)
    refine lv_lstore hx hb hd hL.2 (by rw [← hL.1]; exact e1) rfl (fun Ls' h' => kk Ls' ?_)
    exact LR.set2 hL.1 (by rw [← hL.1]; exact e1) h'
  | astore_n k =>
    obtain ⟨t, q, r, rfl, e1, rfl, rfl⟩ := stR_inv (show stR ls stk _ = some _ from ha)
    refine lv_astore_n hx hb hd rfl hL.2 (by rw [← hL.1]; exact e1) rfl (fun Ls' h' => kk Ls' ?_)
    exact LR.set1 hL.1 (by intro z; cases z) (fun q hq => (Option.some.inj ((claim_ref (List.getElem?_set_self e1)).symm.trans hq)).symm) rfl h'
  | astore k =>
    obtain ⟨t, q, r, rfl, e1, rfl, rfl⟩ := stR_inv (show stR ls stk _ = some _ from ha)
    refine lv_astore hx hb hd hL.2 (by rw [← hL.1]; exact e1) rfl (fun Ls' h' => kk Ls' ?_)
    exact LR.set1 hL.1 (by intro z; cases z) (fun q hq => (Option.some.inj ((claim_ref (List.getElem?_set_self e1)).symm.trans hq)).symm) rfl h'
  | iinc k n =>
    obtain ⟨x, e1, rfl, rfl⟩ := icI_inv (show icI ls stk _ _ = some _ from ha)
    obtain ⟨j, hj⟩ := List.getElem?_of_mem (clm_mem (ad := ad) (ls := ls) (q := (k, .int x)) |>.mpr (claim_int e1))
    have hk : k < ls.length := (List.getElem?_eq_some_iff.mp e1).1
    refine lv_iinc hx hb hd hL.2 hj rfl (by rw [← hL.1]; exact hk) rfl (fun Ls' h' => kk Ls' ?_)
    exact LR.set1 hL.1 (by intro z; cases z) (fun q hq => (Option.some.inj ((claim_int (List.getElem?_set_self hk)).symm.trans hq)).symm) rfl h'
  | iadd =>
    obtain ⟨y, x, r, rfl, rfl, rfl⟩ := op2_inv (show op2 _ ls stk = some _ from ha)
    exact lv_iadd hx hb hd (kk Ls hL)
  | isub =>
    obtain ⟨y, x, r, rfl, rfl, rfl⟩ := op2_inv (show op2 _ ls stk = some _ from ha)
    exact lv_isub hx hb hd (kk Ls hL)
  | imul =>
    obtain ⟨y, x, r, rfl, rfl, rfl⟩ := op2_inv (show op2 _ ls stk = some _ from ha)
    exact lv_imul hx hb hd (kk Ls hL)
  | iand =>
    obtain ⟨y, x, r, rfl, rfl, rfl⟩ := op2_inv (show op2 _ ls stk = some _ from ha)
    exact lv_iand hx hb hd (kk Ls hL)
  | ior =>
    obtain ⟨y, x, r, rfl, rfl, rfl⟩ := op2_inv (show op2 _ ls stk = some _ from ha)
    exact lv_ior hx hb hd (kk Ls hL)
  | ishl =>
    obtain ⟨y, x, r, rfl, rfl, rfl⟩ := op2_inv (show op2 _ ls stk = some _ from ha)
    exact lv_ishl hx hb hd (kk Ls hL)
  | ishr =>
    obtain ⟨y, x, r, rfl, rfl, rfl⟩ := op2_inv (show op2 _ ls stk = some _ from ha)
    exact lv_ishr hx hb hd (kk Ls hL)
  | ladd =>
    obtain ⟨y, x, r, rfl, rfl, rfl⟩ := opL_inv (show opL _ ls stk = some _ from ha)
    exact lv_ladd hx hb hd (kk Ls hL)
  | lmul =>
    obtain ⟨y, x, r, rfl, rfl, rfl⟩ := opL_inv (show opL _ ls stk = some _ from ha)
    exact lv_lmul hx hb hd (kk Ls hL)
  | land =>
    obtain ⟨y, x, r, rfl, rfl, rfl⟩ := opL_inv (show opL _ ls stk = some _ from ha)
    exact lv_land hx hb hd (kk Ls hL)
  | lcmp =>
    obtain ⟨y, x, r, rfl⟩ : ∃ y x r, stk = .inr (.inl y) :: .inr (.inl x) :: r := by
      simp only [alu] at ha
      split at ha
      · exact ⟨_, _, _, rfl⟩
      · cases ha
    cases ha
    exact W.lcmp hx hb hd (kk Ls hL)
  | i2l =>
    obtain ⟨x, r, rfl⟩ : ∃ x r, stk = .inl x :: r := by
      simp only [alu] at ha
      split at ha
      · exact ⟨_, _, rfl⟩
      · cases ha
    cases ha
    exact lv_i2l hx hb hd rfl (kk Ls hL)
  | i2b =>
    obtain ⟨x, r, rfl⟩ : ∃ x r, stk = .inl x :: r := by
      simp only [alu] at ha
      split at ha
      · exact ⟨_, _, rfl⟩
      · cases ha
    cases ha
    exact lv_i2b hx hb hd rfl (kk Ls hL)
  | i2c =>
    obtain ⟨x, r, rfl⟩ : ∃ x r, stk = .inl x :: r := by
      simp only [alu] at ha
      split at ha
      · exact ⟨_, _, rfl⟩
      · cases ha
    cases ha
    exact lv_i2c hx hb hd rfl (kk Ls hL)
  | l2i =>
    obtain ⟨x, r, rfl⟩ : ∃ x r, stk = .inr (.inl x) :: r := by
      simp only [alu] at ha
      split at ha
      · exact ⟨_, _, rfl⟩
      · cases ha
    cases ha
    exact lv_l2i hx hb hd rfl (kk Ls hL)
  | dup =>
    obtain ⟨a, r, rfl, e1, rfl, rfl⟩ := dup_inv ha
    exact lv_dup hx hb hd (cat_mp e1) (kk Ls hL)
  | pop =>
    obtain ⟨a, r, rfl, e1, rfl, rfl⟩ := pop_inv ha
    exact lv_pop hx hb hd (cat_mp e1) (kk Ls hL)
  | dup2 =>
    obtain ⟨a, b, r, rfl, e1, e2, rfl, rfl⟩ := dup2_inv ha
    exact lv_dup2_11 hx hb hd (cat_mp e1) (cat_mp e2) (kk Ls hL)
  | _ => simp [alu] at ha
theorem w_dvs (hx : p.tables.exec = Jvm.exec) (hb : c.code = cc) (hd : decode cc pc = .ok (i, ilen i)) (ha : dvs i stk = some stk')
    (kk : W p l e R s m args below meth c H locs cells slots Q (F0 m (pc + ilen i) Ls (stk'.map (mp ad)))) : W p l e R s m args below meth c H locs cells slots Q (F0 m pc Ls (stk.map (mp ad))) := by
  cases i with
  | idiv =>
    simp only [dvs] at ha
    split at ha
    · split at ha
      · cases ha
      · rename_i h0
        cases ha
        exact lv_idiv hx hb hd h0 kk
    · cases ha
  | irem =>
    simp only [dvs] at ha
    split at ha
    · split at ha
      · cases ha
      · rename_i h0
        cases ha
        exact lv_irem hx hb hd h0 kk
    · cases ha
  | lrem =>
    simp only [dvs] at ha
    split at ha
    · split at ha
      · cases ha
      · rename_i h0
        cases ha
        exact lv_lrem hx hb hd h0 kk
    · cases ha
  | _ => simp [dvs] at ha
theorem swF_ok {pc : Nat} {d : Int} {t0 : Nat} {v : Int} (h0 : (pc : Int) + d = t0) : ∀ (ps : List (Int × Int)) (ts : List Nat), ps.length = ts.length → (ps.zip ts).all (fun q => decide ((pc : Int) + q.1.2 = (q.2 : Int))) = true → (pc : Int) + Op.lookupswitch.offset ps d v = (swF ps ts t0 v : Nat)
  | [], [], _, _ => h0
  | [], _ :: _, h, _ => by cases h
  | _ :: _, [], h, _ => by cases h
  | (a, o) :: ps, t :: ts, h, h2 => by
    simp only [List.zip_cons_cons, List.all_cons, Bool.and_eq_true, decide_eq_true_eq] at h2
    rw [Op.lookupswitch.offset_cons, swF]
    by_cases e : v = a
    · rw [if_pos e, if_pos e.symm]
      exact h2.1
    · rw [if_neg e, if_neg (fun z => e z.symm)]
      exact swF_ok h0 ps ts (by simpa using h) h2.2
theorem swT_out {v : Int} {d : Nat} : ∀ (ts : List Nat) (lo : Int), (v < lo ∨ lo + ts.length ≤ v) → swT lo ts d v = d
  | [], _, _ => rfl
  | t :: ts, lo, h => by
    simp only [List.length_cons] at h
    rw [swT, if_neg (by omega)]
    exact swT_out ts (lo + 1) (by omega)
theorem swT_in {v : Int} {d : Nat} : ∀ (ts : List Nat) (lo : Int), lo ≤ v → v < lo + ts.length → ts[(v - lo).toNat]? = some (swT lo ts d v)
  | [], lo, h1, h2 => by simp at h2; omega
  | t :: ts, lo, h1, h2 => by
    simp only [List.length_cons] at h2
    rw [swT]
    by_cases e : v = lo
    · rw [if_pos e, e, Int.sub_self]
      rfl
    · rw [if_neg e]
      have e1 : (v - lo).toNat = (v - (lo + 1)).toNat + 1 := by omega
      rw [e1, List.getElem?_cons_succ]
      exact swT_in ts (lo + 1) (by omega) (by omega)
theorem zip_at {pc : Nat} : ∀ (os : List Int) (ts : List Nat) (j : Nat) (t : Nat), os.length = ts.length → (os.zip ts).all (fun q => decide ((pc : Int) + q.1 = (q.2 : Int))) = true → ts[j]? = some t → ∃ o, os[j]? = some o ∧ (pc : Int) + o = t
  | [], [], j, t, _, _, h => by simp at h
  | [], _ :: _, _, _, h, _, _ => by cases h
  | _ :: _, [], _, _, h, _, _ => by cases h
  | o :: os, t0 :: ts, j, t, h, h2, h3 => by
    simp only [List.zip_cons_cons, List.all_cons, Bool.and_eq_true, decide_eq_true_eq] at h2
    cases j with
    | zero => cases h3; exact ⟨o, rfl, h2.1⟩
    | succ j => exact zip_at os ts j t (by simpa using h) h2.2 h3
/-- the row of a jump: where it goes -/
theorem w_jmp {own : String} {rt : Option FieldType} {nx pc' : Nat} {ex : List Nat} (hx : p.tables.exec = Jvm.exec) (hb : c.code = cc) (hd : decode cc pc = .ok (i, if isSw i = true then nx - pc else ilen i)) (hn : isSw i = true ∨ nx = pc + ilen i) (hk : lnk own rt pc i ex = true) (ha : jmp i ex nx stk = some (pc', stk'))
    (kk : W p l e R s m args below meth c H locs cells slots Q (F0 m pc' Ls (stk'.map (mp ad)))) : W p l e R s m args below meth c H locs cells slots Q (F0 m pc Ls (stk.map (mp ad))) := by
  have tg : ∀ {o : Int} {t : Nat} {ts : List Nat}, tgtB pc o (t :: ts) = true → (pc : Int) + o = (t : Int) := by
    intro o t ts h
    cases ts with
    | nil => simpa [tgtB] using h
    | cons a b => simp [tgtB] at h
  cases i with
  | goto o =>
    simp only [jmp] at ha
    split at ha
    · cases ha
      exact lv_goto hx hb hd (tg hk) kk
    · cases ha
  | ifCond k o =>
    have hnx : nx = pc + 3 := hn.elim (fun z => by cases z) id
    subst hnx
    simp only [jmp] at ha
    split at ha
    · rename_i t ts x r
      cases ha
      have ht := tg hk
      have go : ∀ b : Bool, cnd k x 0 = b → W p l e R s m args below meth c H locs cells slots Q (F0 m (bif b then t else pc + 3) Ls (List.map (mp ad) stk')) := fun b hb' => by rw [← hb']; exact kk
      cases k with
      | eq => exact lv_if_eq hx hb hd ht (fun z => go true (cnd_eq.mpr z)) (fun z => go false (Bool.eq_false_iff.mpr (fun q => z (cnd_eq.mp q))))
      | ne => exact lv_if_ne hx hb hd ht (fun z => go true (cnd_ne.mpr z)) (fun z => go false (by simp [cnd, z]))
      | lt => exact lv_if_lt hx hb hd ht (fun z => go true (by simp [cnd, z])) (fun z => go false (by simp [cnd, z]))
      | ge => exact lv_if_ge hx hb hd ht (fun z => go true (by simp [cnd, z])) (fun z => go false (by simp [cnd, z]))
      | gt => exact lv_if_gt hx hb hd ht (fun z => go true (by simp [cnd, z])) (fun z => go false (by simp [cnd, z]))
      | le => exact lv_if_le hx hb hd ht (fun z => go true (by simp [cnd, z])) (fun z => go false (by simp [cnd, z]))
    · cases ha
  | if_icmp k o =>
    have hnx : nx = pc + 3 := hn.elim (fun z => by cases z) id
    subst hnx
    simp only [jmp] at ha
    split at ha
    · rename_i t ts y x r
      cases ha
      have ht := tg hk
      have go : ∀ b : Bool, cnd k x y = b → W p l e R s m args below meth c H locs cells slots Q (F0 m (bif b then t else pc + 3) Ls (List.map (mp ad) stk')) := fun b hb' => by rw [← hb']; exact kk
      cases k with
      | eq => exact lv_icmp_eq hx hb hd ht (fun z => go true (cnd_eq.mpr z)) (fun z => go false (Bool.eq_false_iff.mpr (fun q => z (cnd_eq.mp q))))
      | ne => exact lv_icmp_ne hx hb hd ht (fun z => go true (cnd_ne.mpr z)) (fun z => go false (by simp [cnd, z]))
      | lt => exact lv_icmp_lt hx hb hd ht (fun z => go true (by simp [cnd, z])) (fun z => go false (by simp [cnd, z]))
      | ge => exact lv_icmp_ge hx hb hd ht (fun z => go true (by simp [cnd, z])) (fun z => go false (by simp [cnd, z]))
      | gt => exact lv_icmp_gt hx hb hd ht (fun z => go true (by simp [cnd, z])) (fun z => go false (by simp [cnd, z]))
      | le => exact lv_icmp_le hx hb hd ht (fun z => go true (by simp [cnd, z])) (fun z => go false (by simp [cnd, z]))
    · cases ha
  | lookupswitch d ps =>
    simp only [jmp] at ha
    split at ha
    · rename_i t ts x r
      cases ha
      simp only [lnk, lsB, Bool.and_eq_true, decide_eq_true_eq] at hk
      exact lv_lookup hx hb hd (by simpa using hk.2.2.2) rfl (swF_ok hk.1 ps.toList ts hk.2.1 (by simpa using hk.2.2.1)) kk
    · cases ha
  | tableswitch d lo hi offs =>
    simp only [jmp] at ha
    split at ha
    · rename_i t ts x r
      cases ha
      simp only [lnk, tsB, Bool.and_eq_true, decide_eq_true_eq] at hk
      obtain ⟨h1, h2, h3, h4⟩ := hk
      by_cases g1 : x.toInt < lo
      · rw [swT_out ts lo (Or.inl g1)] at kk
        exact lv_tableOut hx hb hd (Or.inl g1) h1 kk
      · by_cases g2 : hi < x.toInt
        · rw [swT_out ts lo (Or.inr (by omega))] at kk
          exact lv_tableOut hx hb hd (Or.inr g2) h1 kk
        · obtain ⟨o, ho1, ho2⟩ := zip_at offs.toList ts _ _ h2 (by simpa using h4) (swT_in (d := t) (v := x.toInt) ts lo (by omega) (by omega))
          exact lv_tableIn hx hb hd g1 g2 (by simpa using ho1) ho2 kk
    · cases ha
  | _ => simp [jmp] at ha
end WK

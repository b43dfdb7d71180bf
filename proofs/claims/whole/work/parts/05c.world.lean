/-! The world of cells that a store stands for, at addresses that are given. -/
def zq (z q : Nat) : Nat := match z with
  | 0 => q
  | z + 1 => z
def fv (ad : Nat → Nat → Nat) (σ : St) (t q k : Nat) : Value := match fkd t k with
  | (1, T', z) => .ref (ad T' (zq z q))
  | (2, _, _) => .long (hs σ)
  | _ => .int (ar σ t q k)
def nF (t : Nat) : Nat := (fkT.getD t []).length
def rwR (ad : Nat → Nat → Nat) (t : Nat) : Nat → Option Nat := fun j => if j < 6 then some (ad t j) else none
def pic (ad : Nat → Nat → Nat) (cI cO : ClassId) (σ : St) (c : Nat × Nat) : va_E :=
  if c.1 < 8 then .inr (c.1, (List.range (nF c.1)).map (fv ad σ c.1 c.2))
  else if c.1 = 23 then .inl (cO, 6, .inr (.inr (.inr (.inr (rwR ad 24)))))
  else if c.1 = 25 then .inl (cO, 6, .inr (.inr (.inr (.inr (rwR ad 26)))))
  else .inl (cI, lenT c.1, .inl (ar σ c.1 c.2))
def wld (ad : Nat → Nat → Nat) (cI cO : ClassId) (σ : St) : va_W := wcells.map (fun c => (ad c.1 c.2, pic ad cI cO σ c))
def mp (ad : Nat → Nat → Nat) : IV → Value
  | .inl x => .int x
  | .inr (.inl x) => .long x
  | .inr (.inr (.inl (t, q))) => .ref (ad t q)
  | .inr (.inr (.inr _)) => .null
def okR (t q : Nat) : Prop := (t, q) ∈ wcells ∨ (59 < t ∧ t < 65 ∧ q = 0)
def okV : IV → Prop
  | .inr (.inr (.inl (t, q))) => okR t q
  | _ => True
theorem wnd : wcells.Nodup := by decide +kernel
theorem wlt : ∀ c ∈ wcells, c.1 < 60 := by decide +kernel
theorem okR_w {t q : Nat} (h : okR t q) (ht : t < 60) : (t, q) ∈ wcells := h.elim id (fun z => by omega)
theorem okR_0 {t q : Nat} (h : okR t q) (ht : 59 < t) : q = 0 ∧ t < 65 := h.elim (fun z => by have := wlt _ z; simp only at this; omega) (fun z => ⟨z.2.2, z.2.1⟩)
theorem wld_get {ad : Nat → Nat → Nat} {cI cO : ClassId} {σ : St} {t q : Nat} (h : (t, q) ∈ wcells) : ∃ i : Nat, wcells[i]? = some (t, q) ∧ (wld ad cI cO σ)[i]? = some (ad t q, pic ad cI cO σ (t, q)) := by
  obtain ⟨i, hi⟩ := List.getElem?_of_mem h
  exact ⟨i, hi, by rw [wld, List.getElem?_map, hi]; rfl⟩
theorem wld_set {ad : Nat → Nat → Nat} {cI cO : ClassId} {σ σ' : St} {t q i : Nat} (hi : wcells[i]? = some (t, q)) (hs : ∀ c ∈ wcells, c ≠ (t, q) → pic ad cI cO σ' c = pic ad cI cO σ c) : (wld ad cI cO σ).set i (ad t q, pic ad cI cO σ' (t, q)) = wld ad cI cO σ' := by
  apply List.ext_getElem?
  intro j
  have hl := (List.getElem?_eq_some_iff.mp hi).1
  by_cases e : j = i
  · subst e
    rw [List.getElem?_set_self (by rw [wld, List.length_map]; exact hl), wld, List.getElem?_map, hi]
    rfl
  · rw [List.getElem?_set_ne (Ne.symm e), wld, wld, List.getElem?_map, List.getElem?_map]
    cases hc : wcells[j]? with
    | none => rfl
    | some c =>
      have hne : c ≠ (t, q) := by
        intro z
        subst z
        obtain ⟨hj, ej⟩ := List.getElem?_eq_some_iff.mp hc
        obtain ⟨hi', ei⟩ := List.getElem?_eq_some_iff.mp hi
        exact e ((List.getElem_inj wnd).mp (ej.trans ei.symm))
      simp only [Option.map_some]
      rw [hs c (List.mem_of_getElem? hc) hne]
theorem ar_se {σ : St} {t q j : Nat} {x : Int32} : ar (se σ t q j x) t q = upd (ar σ t q) j x := by
  simp [se, sw, ar]
theorem ar_sw {σ : St} {t q : Nat} {f : Nat → Int32} : ar (sw σ t q f) t q = f := by
  simp [sw, ar]
theorem ar_sw_ne {σ : St} {t q t' q' : Nat} {f : Nat → Int32} (h : (t', q') ≠ (t, q)) : ar (sw σ t q f) t' q' = ar σ t' q' := by
  unfold sw ar
  by_cases h1 : t' = t
  · by_cases h2 : q' = q
    · exact absurd (by rw [h1, h2]) h
    · simp only [if_pos h1, if_neg h2]
  · simp only [if_neg h1]
theorem ar_se_ne {σ : St} {t q t' q' j : Nat} {x : Int32} (h : (t', q') ≠ (t, q)) : ar (se σ t q j x) t' q' = ar σ t' q' := ar_sw_ne h
theorem hs_sw {σ : St} {t q : Nat} {f : Nat → Int32} : hs (sw σ t q f) = hs σ := rfl
theorem hs_se {σ : St} {t q j : Nat} {x : Int32} : hs (se σ t q j x) = hs σ := rfl
theorem ar_sh {σ : St} {t q : Nat} {x : Int64} : ar (sh σ x) t q = ar σ t q := rfl
theorem pic_ext {ad : Nat → Nat → Nat} {cI cO : ClassId} {σ σ' : St} {c : Nat × Nat} (h1 : ar σ' c.1 c.2 = ar σ c.1 c.2) (h2 : hs σ' = hs σ) : pic ad cI cO σ' c = pic ad cI cO σ c := by
  have e : fv ad σ' c.1 c.2 = fv ad σ c.1 c.2 := by
    funext k
    unfold fv
    rw [h1, h2]
  unfold pic
  rw [e, h1]
theorem pic_sw {ad : Nat → Nat → Nat} {cI cO : ClassId} {σ : St} {t q : Nat} {f : Nat → Int32} {c : Nat × Nat} (h : c ≠ (t, q)) : pic ad cI cO (sw σ t q f) c = pic ad cI cO σ c :=
  pic_ext (ar_sw_ne (by obtain ⟨a, b⟩ := c; exact h)) rfl
theorem pic_arr {ad : Nat → Nat → Nat} {cI cO : ClassId} {σ : St} {t q : Nat} (h : 0 < lenT t) : pic ad cI cO σ (t, q) = .inl (cI, lenT t, .inl (ar σ t q)) := by
  have h8 : ¬ t < 8 := fun z => by
    have : lenT t = 0 := by
      match t, z with
      | 0, _ => rfl
      | 1, _ => rfl
      | 2, _ => rfl
      | 3, _ => rfl
      | 4, _ => rfl
      | 5, _ => rfl
      | 6, _ => rfl
      | 7, _ => rfl
      | n + 8, z => omega
    omega
  have h23 : ¬ t = 23 := fun z => by subst z; exact absurd h (by decide)
  have h25 : ¬ t = 25 := fun z => by subst z; exact absurd h (by decide)
  unfold pic
  simp only [if_neg h8, if_neg h23, if_neg h25]
theorem pic_obj {ad : Nat → Nat → Nat} {cI cO : ClassId} {σ : St} {t q : Nat} (h : t < 8) : pic ad cI cO σ (t, q) = .inr (t, (List.range (nF t)).map (fv ad σ t q)) := by
  unfold pic
  simp only [if_pos h]
theorem range_set {n k : Nat} {f g : Nat → Value} {v : Value} (hv : k < n → g k = v) (h : ∀ i, i < n → i ≠ k → g i = f i) : ((List.range n).map f).set k v = (List.range n).map g := by
  apply List.ext_getElem?
  intro i
  by_cases e : i = k
  · subst e
    by_cases hi : i < n
    · rw [List.getElem?_set_self (by rw [List.length_map, List.length_range]; exact hi), List.getElem?_map, List.getElem?_range hi]
      exact congrArg some (hv hi).symm
    · rw [List.getElem?_eq_none (by rw [List.length_set, List.length_map, List.length_range]; omega), List.getElem?_eq_none (by rw [List.length_map, List.length_range]; omega)]
  · rw [List.getElem?_set_ne (Ne.symm e), List.getElem?_map, List.getElem?_map]
    by_cases hi : i < n
    · rw [List.getElem?_range hi]
      exact congrArg some (h i hi e).symm
    · rw [List.getElem?_eq_none (by rw [List.length_range]; omega)]
      rfl
theorem fv_int {ad : Nat → Nat → Nat} {σ : St} {t q k : Nat} (h : (fkd t k).1 = 0) : fv ad σ t q k = .int (ar σ t q k) := by
  unfold fv
  revert h
  cases fkd t k with
  | mk a b =>
    intro h
    simp only at h
    subst h
    rfl
theorem fv_ref {ad : Nat → Nat → Nat} {σ : St} {t q k T z : Nat} (h : fkd t k = (1, T, z)) : fv ad σ t q k = .ref (ad T (zq z q)) := by
  unfold fv
  rw [h]
  rfl
theorem fv_long {ad : Nat → Nat → Nat} {σ : St} {t q k : Nat} (h : (fkd t k).1 = 2) : fv ad σ t q k = .long (hs σ) := by
  unfold fv
  revert h
  cases fkd t k with
  | mk a b =>
    intro h
    simp only at h
    subst h
    rfl
theorem fv_upd {ad : Nat → Nat → Nat} {σ : St} {t q k i : Nat} {x : Int32} (h : i ≠ k) : fv ad (se σ t q k x) t q i = fv ad σ t q i := by
  unfold fv
  rw [hs_se, ar_se]
  have e : upd (ar σ t q) k x i = ar σ t q i := pk_un h
  rw [e]
/-- the long's kind of field is in one class alone -/
theorem fkd_long : ∀ t, t < 8 → ∀ k, k < 43 → (fkd t k).1 = 2 → t = 7 := by decide +kernel
theorem only7 : ∀ c ∈ wcells, c.1 = 7 → c.2 = 0 := by decide +kernel
theorem nF_le : ∀ t, t < 8 → nF t ≤ 43 := by decide +kernel
theorem nF_wcl : ∀ t, t < 8 → (wcl[t]?).map (fun q => q.2.2) = some (nF t) := by
  intro t ht
  match t, ht with
  | 0, _ => rfl
  | 1, _ => rfl
  | 2, _ => rfl
  | 3, _ => rfl
  | 4, _ => rfl
  | 5, _ => rfl
  | 6, _ => rfl
  | 7, _ => rfl
  | n + 8, h => omega
theorem pic_sh {ad : Nat → Nat → Nat} {cI cO : ClassId} {σ : St} {x : Int64} {c : Nat × Nat} (h : c ∈ wcells) (hc : c ≠ (7, 0)) : pic ad cI cO (sh σ x) c = pic ad cI cO σ c := by
  unfold pic
  by_cases h8 : c.1 < 8
  · rw [if_pos h8, if_pos h8]
    have e : (List.range (nF c.1)).map (fv ad (sh σ x) c.1 c.2) = (List.range (nF c.1)).map (fv ad σ c.1 c.2) := by
      apply List.map_congr_left
      intro k hk
      have hk1 := List.mem_range.mp hk
      have hk2 := nF_le c.1 h8
      by_cases e2 : (fkd c.1 k).1 = 2
      · have h7 := fkd_long c.1 h8 k (by omega) e2
        have h0 := only7 c h h7
        exact absurd (Prod.ext h7 h0) hc
      · unfold fv
        rw [ar_sh]
        revert e2
        cases hf : fkd c.1 k with
        | mk a b =>
          intro e2
          match a, e2 with
          | 0, _ => rfl
          | 1, _ => rfl
          | n + 3, _ => rfl
          | 2, e2 => exact absurd rfl e2
    rw [e]
  · rw [if_neg h8, if_neg h8]
    rfl
/-- what a field leads to is a cell -/
theorem fld_ok : ∀ c ∈ wcells, c.1 < 8 → ∀ k, k < 43 → (fkd c.1 k).1 = 1 → ((fkd c.1 k).2.1, zq (fkd c.1 k).2.2 c.2) ∈ wcells := by decide +kernel
theorem row_ok : ∀ j, j < 6 → (24, j) ∈ wcells ∧ (26, j) ∈ wcells := by decide +kernel
theorem outer_0 : ∀ c ∈ wcells, (c.1 = 23 ∨ c.1 = 25) → c.2 = 0 := by decide +kernel
/-! what never changes: statics, the text, the script -/
def RO (ad : Nat → Nat → Nat) (A : Nat → Prop) (L : Nat) (xs : Nat → Int32) (U : State) (H : Heap) : Prop :=
  (va_Z RX6 "LESSER" "[I" (.ref (ad 60 0)) A U H ∧ va_T .int (ad 60 0) 15 (fun j => .int (roF 60 j)) A U H ∧ va_Z RX6 "GREATER" "[I" (.ref (ad 61 0)) A U H ∧ va_T .int (ad 61 0) 15 (fun j => .int (roF 61 j)) A U H) ∧
  (va_Z "java/lang/String" "COMPACT_STRINGS" "Z" (.int 1) A U H ∧ vk_R RX2 60 "htmsf" (ad 62 0) U ∧ va_O "java/lang/String" (ad 62 0) A U H ∧ va_OF "java/lang/String" "coder" "B" (.int 0) (ad 62 0) A U H ∧ va_OF "java/lang/String" "value" "[B" (.ref (ad 63 0)) (ad 62 0) A U H ∧ va_T .byte (ad 63 0) 5 (fun j => .int (roF 63 j)) A U H) ∧
  (va_X (ad 64 0) L xs U H ∧ ad 64 0 < H.size ∧ ¬ A (ad 64 0)) ∧ ∀ w ∈ nestWs, va_Nw w U
theorem RO.kept {ad : Nat → Nat → Nat} {A : Nat → Prop} {L : Nat} {xs : Nat → Int32} {U : State} {H H1 : Heap} (h : RO ad A L xs U H) (hz : H.size ≤ H1.size) (hq : ∀ a : Nat, a < H.size → ¬ A a → H1[a]? = H[a]?) : RO ad A L xs U H1 := by
  obtain ⟨⟨a1, a2, a3, a4⟩, ⟨b1, b2, b3, b4, b5, b6⟩, ⟨c1, c2, c3⟩, d1⟩ := h
  exact ⟨⟨a1.kept hq, a2.kept hq, a3.kept hq, a4.kept hq⟩, ⟨b1.kept hq, b2, b3.kept hq, b4.kept hq, b5.kept hq, b6.kept hq⟩, ⟨c1.kept (hq _ c2 c3), by omega, c3⟩, d1⟩
theorem nest_shape : ∀ w ∈ nestWs, (∃ a i b n d h, w = Jvm.Cond.fieldLinkNest a i b n d h) ∨ ∃ a i x h, w = Jvm.Cond.methodLinkNest a i x h := by
  intro w hw
  simp only [nestWs, List.mem_cons, List.not_mem_nil, or_false] at hw
  rcases hw with rfl | rfl | rfl | rfl | rfl | rfl | rfl | rfl | rfl | rfl | rfl | rfl <;> first | exact Or.inl ⟨_, _, _, _, _, _, rfl⟩ | exact Or.inr ⟨_, _, _, _, rfl⟩
theorem RO.warm {ad : Nat → Nat → Nat} {A : Nat → Prop} {L : Nat} {xs : Nat → Int32} {s U : State} {H : Heap} (hW : s.WarmedH U.vm) (h : RO ad A L xs s H) : RO ad A L xs U H := by
  obtain ⟨⟨a1, a2, a3, a4⟩, ⟨b1, b2, b3, b4, b5, b6⟩, ⟨c1, c2, c3⟩, d1⟩ := h
  have hv := hW.alike
  refine ⟨⟨va_Z.moved hv a1, va_T.moved hv a2, va_Z.moved hv a3, va_T.moved hv a4⟩, ⟨va_Z.moved hv b1, vk_R.warm hW b2, va_O.moved hv b3, va_OF.moved hv b4, va_OF.moved hv b5, va_T.moved hv b6⟩, ⟨c1.moved hv, c2, c3⟩, fun w hw => ?_⟩
  have h1 := d1 w hw
  rcases nest_shape w hw with ⟨a, i, b, n, d, h, rfl⟩ | ⟨a, i, x, h, rfl⟩
  · exact va_Nw.warmF hW h1
  · exact va_Nw.warmM hW h1
theorem RO.same {ad : Nat → Nat → Nat} {A : Nat → Prop} {L : Nat} {xs : Nat → Int32} {u U : State} {H : Heap} (hv : U.vm = u.vm) (h : RO ad A L xs u H) : RO ad A L xs U H := by
  obtain ⟨⟨a1, a2, a3, a4⟩, ⟨b1, b2, b3, b4, b5, b6⟩, ⟨c1, c2, c3⟩, d1⟩ := h
  have hk : u.vm.Alike U.vm := by rw [hv]; exact Vm.Alike.refl _
  refine ⟨⟨va_Z.moved hk a1, va_T.moved hk a2, va_Z.moved hk a3, va_T.moved hk a4⟩, ⟨va_Z.moved hk b1, vk_R.same hv b2, va_O.moved hk b3, va_OF.moved hk b4, va_OF.moved hk b5, va_T.moved hk b6⟩, ⟨c1.moved hk, c2, c3⟩, fun w hw => ?_⟩
  have h1 := d1 w hw
  rcases nest_shape w hw with ⟨a, i, b, n, d, h, rfl⟩ | ⟨a, i, x, h, rfl⟩
  · exact va_Nw.same rfl hv.symm h1
  · exact va_Nw.same rfl hv.symm h1
/-- the heap holds the store -/
def HW (ad : Nat → Nat → Nat) (cI cO : ClassId) (D : va_G) (A : Nat → Prop) (L : Nat) (xs : Nat → Int32) (σ : St) (H : Heap) : Prop := va_P D wcl (wld ad cI cO σ) H ∧ va_D A (wld ad cI cO σ) ∧ scL σ = L ∧ scF σ = xs
abbrev wtys (cI cO : ClassId) : List (ClassId × FieldType) := [(cI, .int), (cO, .array .int)]
/-! the locals -/
def claim (ad : Nat → Nat → Nat) (ls : List IV) (i : Nat) : Option (Nat × Value) := match ls[i]? with
  | some (.inl x) => some (i, .int x)
  | some (.inr (.inr (.inl (t, q)))) => some (i, .ref (ad t q))
  | some (.inr (.inl x)) => match ls[i + 1]? with
    | some (.inr (.inr (.inr ()))) => some (i, .long x)
    | _ => none
  | _ => none
def clm (ad : Nat → Nat → Nat) (ls : List IV) : List (Nat × Value) := (List.range ls.length).filterMap (claim ad ls)
def LR (ad : Nat → Nat → Nat) (Ls : Array Slot) (n : Nat) (ls : List IV) : Prop := ls.length = n ∧ lv_has Ls n (clm ad ls)
theorem claim_1 {ad : Nat → Nat → Nat} {ls : List IV} {i : Nat} {q : Nat × Value} (h : claim ad ls i = some q) : q.1 = i ∧ i < ls.length := by
  unfold claim at h
  cases hx : ls[i]? with
  | none => rw [hx] at h; cases h
  | some v =>
    rw [hx] at h
    have hl := (List.getElem?_eq_some_iff.mp hx).1
    obtain x | x | ⟨t, q⟩ | x := v
    · cases h; exact ⟨rfl, hl⟩
    · dsimp only at h
      cases hy : ls[i + 1]? with
      | none => rw [hy] at h; cases h
      | some w =>
        rw [hy] at h
        obtain y | y | y | y := w
        · cases h
        · cases h
        · cases h
        · cases h; exact ⟨rfl, hl⟩
    · cases h; exact ⟨rfl, hl⟩
    · cases h
theorem clm_mem {ad : Nat → Nat → Nat} {ls : List IV} {q : Nat × Value} : q ∈ clm ad ls ↔ claim ad ls q.1 = some q := by
  unfold clm
  rw [List.mem_filterMap]
  constructor
  · rintro ⟨i, -, hi⟩
    rw [(claim_1 hi).1]
    exact hi
  · intro h
    exact ⟨q.1, List.mem_range.mpr (claim_1 h).2, h⟩
theorem claim_int {ad : Nat → Nat → Nat} {ls : List IV} {i : Nat} {x : Int32} (h : ls[i]? = some (.inl x)) : claim ad ls i = some (i, .int x) := by
  unfold claim; rw [h]
theorem claim_ref {ad : Nat → Nat → Nat} {ls : List IV} {i t q : Nat} (h : ls[i]? = some (.inr (.inr (.inl (t, q))))) : claim ad ls i = some (i, .ref (ad t q)) := by
  unfold claim; rw [h]
theorem claim_long {ad : Nat → Nat → Nat} {ls : List IV} {i : Nat} {x : Int64} (h : ls[i]? = some (.inr (.inl x))) (h2 : ls[i + 1]? = some (.inr (.inr (.inr ())))) : claim ad ls i = some (i, .long x) := by
  unfold claim; rw [h]; dsimp only; rw [h2]
theorem LR.at {ad : Nat → Nat → Nat} {Ls : Array Slot} {n i : Nat} {ls : List IV} {v : Value} (h : LR ad Ls n ls) (hc : claim ad ls i = some (i, v)) : Ls[i]? = some (.val v) :=
  h.2.2.2 (i, v) (clm_mem.mpr hc)
/-- a store of one slot -/
theorem LR.set1 {ad : Nat → Nat → Nat} {Ls' : Array Slot} {n i : Nat} {ls : List IV} {v : IV} {w : Value} (hn : ls.length = n) (hv : v ≠ .inr (.inr (.inr ()))) (hw : ∀ q, claim ad (ls.set i v) i = some q → q = (i, w)) (hw1 : w.category = 1)
    (h : lv_has Ls' n ((i, w) :: (clm ad ls).filter (fun q => !(q.1 == i) && !(q.1 + 1 == i && q.2.category == 2)))) : LR ad Ls' n (ls.set i v) := by
  refine ⟨by rw [List.length_set]; exact hn, h.1, h.2.1, fun q hq => ?_⟩
  have hc := clm_mem.mp hq
  by_cases e : q.1 = i
  · rw [e] at hc
    rw [hw q hc]
    exact h.2.2 _ List.mem_cons_self
  · refine h.2.2 q (List.mem_cons_of_mem _ (List.mem_filter.mpr ⟨?_, ?_⟩))
    · refine clm_mem.mpr ?_
      rw [← hc]
      unfold claim
      rw [List.getElem?_set_ne (Ne.symm e)]
      cases hx : ls[q.1]? with
      | none => rfl
      | some u =>
        obtain x | x | ⟨t, q'⟩ | x := u
        · rfl
        · dsimp only
          by_cases e2 : q.1 + 1 = i
          · exfalso
            have hl := (claim_1 hc).2
            rw [List.length_set] at hl
            unfold claim at hc
            rw [List.getElem?_set_ne (Ne.symm e), hx] at hc
            dsimp only at hc
            by_cases hi : i < ls.length
            · rw [e2, List.getElem?_set_self hi] at hc
              obtain y | y | y | y := v
              · cases hc
              · cases hc
              · cases hc
              · exact hv rfl
            · rw [e2, List.getElem?_eq_none (by rw [List.length_set]; omega)] at hc
              cases hc
          · rw [List.getElem?_set_ne (Ne.symm e2)]
        · rfl
        · rfl
    · by_cases e2 : q.1 + 1 = i
      · have hcat : ¬ q.2.category = 2 := by
          intro h2
          unfold claim at hc
          rw [List.getElem?_set_ne (Ne.symm e)] at hc
          cases hx : ls[q.1]? with
          | none => rw [hx] at hc; cases hc
          | some u =>
            rw [hx] at hc
            obtain x | x | ⟨t, q'⟩ | x := u
            · dsimp only at hc; rw [← Option.some.inj hc] at h2; cases h2
            · dsimp only at hc
              by_cases hi : i < ls.length
              · rw [e2, List.getElem?_set_self hi] at hc
                obtain y | y | y | y := v
                · cases hc
                · cases hc
                · cases hc
                · exact hv rfl
              · rw [e2, List.getElem?_eq_none (by rw [List.length_set]; omega)] at hc
                cases hc
            · dsimp only at hc; rw [← Option.some.inj hc] at h2; cases h2
            · dsimp only at hc; cases hc
        simp [e, e2, hcat]
      · simp [e, e2]
/-- a store of a long -/
theorem LR.set2 {ad : Nat → Nat → Nat} {Ls' : Array Slot} {n i : Nat} {ls : List IV} {x : Int64} (hn : ls.length = n) (hi : i + 1 < n)
    (h : lv_has Ls' n ((i, .long x) :: (clm ad ls).filter (fun q => !(q.1 == i) && (!(q.1 == i + 1) && !(q.1 + 1 == i && q.2.category == 2))))) : LR ad Ls' n ((ls.set i (.inr (.inl x))).set (i + 1) (.inr (.inr (.inr ())))) := by
  refine ⟨by rw [List.length_set, List.length_set]; exact hn, h.1, h.2.1, fun q hq => ?_⟩
  have hc := clm_mem.mp hq
  by_cases e : q.1 = i
  · rw [e] at hc
    rw [claim_long (x := x) (by rw [List.getElem?_set_ne (by omega), List.getElem?_set_self (by omega)]) (by rw [List.getElem?_set_self (by rw [List.length_set]; omega)])] at hc
    cases hc
    exact h.2.2 _ List.mem_cons_self
  · by_cases e1 : q.1 = i + 1
    · rw [e1] at hc
      unfold claim at hc
      rw [List.getElem?_set_self (by rw [List.length_set]; omega)] at hc
      cases hc
    · have hne : ((ls.set i (.inr (.inl x))).set (i + 1) (.inr (.inr (.inr ()))))[q.1]? = ls[q.1]? := by
        rw [List.getElem?_set_ne (Ne.symm e1), List.getElem?_set_ne (Ne.symm e)]
      have hc' : claim ad ls q.1 = some q := by
        rw [← hc]
        unfold claim
        rw [hne]
        cases hx : ls[q.1]? with
        | none => rfl
        | some u =>
          obtain y | y | ⟨t, q'⟩ | y := u
          · rfl
          · dsimp only
            by_cases e2 : q.1 + 1 = i
            · exfalso
              unfold claim at hc
              rw [hne, hx] at hc
              dsimp only at hc
              rw [e2, List.getElem?_set_ne (by omega), List.getElem?_set_self (by omega)] at hc
              cases hc
            · rw [List.getElem?_set_ne (by omega), List.getElem?_set_ne (Ne.symm e2)]
          · rfl
          · rfl
      refine h.2.2 q (List.mem_cons_of_mem _ (List.mem_filter.mpr ⟨clm_mem.mpr hc', ?_⟩))
      by_cases e2 : q.1 + 1 = i
      · have hcat : ¬ q.2.category = 2 := by
          intro h2
          unfold claim at hc
          rw [hne] at hc
          cases hx : ls[q.1]? with
          | none => rw [hx] at hc; cases hc
          | some u =>
            rw [hx] at hc
            obtain y | y | ⟨t, q'⟩ | y := u
            · dsimp only at hc; rw [← Option.some.inj hc] at h2; cases h2
            · dsimp only at hc
              rw [e2, List.getElem?_set_ne (by omega), List.getElem?_set_self (by omega)] at hc
              cases hc
            · dsimp only at hc; rw [← Option.some.inj hc] at h2; cases h2
            · dsimp only at hc; cases hc
        simp [e, e1, e2, hcat]
      · simp [e, e1, e2]

/-! Arbiters: what the one search and the other come to. -/
theorem bd_20 (x : Int32) : ∃ v, v ≤ 20 ∧ bd x = nI v := by
  unfold bd
  by_cases c : x < 20
  · rw [if_pos c]
    by_cases c0 : 0 < x
    · rw [if_pos c0]
      exact nI_of2 (M := 20) (n := 20) rfl (fun z => Int32.lt_irrefl (Int32.lt_trans z c0)) (Int32.le_of_lt c)
    · rw [if_neg c0]
      exact ⟨0, by omega, rfl⟩
  · rw [if_neg c]
    exact ⟨20, by omega, by decide⟩
section AB
variable {n : Nat} {K W A : Nat → Int32}
theorem R20_mor (h : R20 A) : R20 (mor n K W A) := fun j hj => by
  unfold mor
  by_cases c : j / 6 < n ∧ j % 6 < n ∧ j / 6 ≠ j % 6
  · rw [if_pos c]
    exact bd_20 _
  · rw [if_neg c]
    exact h j hj
theorem R20_upd {k : Nat} {x : Int32} (h : R20 A) : R20 (upd A k (bd x)) := fun j hj => by
  rw [upd_if]
  split
  · exact bd_20 _
  · exact h j hj
theorem R20_0 {k : Nat} (h : R20 A) : R20 (upd A k 0) := fun j hj => by
  rw [upd_if]
  split
  · exact ⟨0, by omega, rfl⟩
  · exact h j hj
/-- the so-manieth choice among n houses -/
def pof (n k : Nat) : Option Nat := if k = 0 then none else some (prn n (k - 1))
def dgs (b : Nat) : Nat → Nat → List Nat
  | 0, _ => []
  | r + 1, c => c / b ^ r :: dgs b r (c % b ^ r)
/-- stares and rings behind mornings with these choices ahead -/
noncomputable def lvl (n : Nat) (K W : Nat → Int32) : List Nat → (Nat → Int32) → Nat
  | [], A => lfv n K W A
  | k :: ds, A => lvl n K W ds (mor n K W (pcO (pof n k) A))
theorem lvl_le (h6 : n ≤ 6) : ∀ (ds : List Nat) (A : Nat → Int32), lvl n K W ds A ≤ 12
  | [], _ => lfv_le h6
  | _ :: ds, _ => lvl_le h6 ds _
abbrev AbS : Type := Nat × List (Option Nat)
def stp (s e : AbS) : AbS := if e.1 < s.1 then e else s
theorem stf_le {v : Nat → Nat} {w : Nat → List (Option Nat)} : ∀ (l : List Nat) (s : AbS), (l.foldl (fun s c => stp s (v c, w c)) s).1 ≤ s.1
  | [], _ => Nat.le_refl _
  | c :: l, s => by
    rw [List.foldl_cons]
    refine Nat.le_trans (stf_le l _) ?_
    unfold stp
    split
    · rename_i h
      exact Nat.le_of_lt h
    · exact Nat.le_refl _
theorem stf_mem {v : Nat → Nat} {w : Nat → List (Option Nat)} : ∀ (l : List Nat) (s : AbS) (c : Nat), c ∈ l → (l.foldl (fun s c => stp s (v c, w c)) s).1 ≤ v c
  | [], _, _, h => by cases h
  | x :: l, s, c, h => by
    rw [List.foldl_cons]
    rcases List.mem_cons.mp h with rfl | h
    · refine Nat.le_trans (stf_le l _) ?_
      unfold stp
      by_cases h2 : v c < s.1
      · rw [if_pos h2]
        exact Nat.le_refl _
      · rw [if_neg h2]
        omega
    · exact stf_mem l _ c h
theorem stf_id {v : Nat → Nat} {w : Nat → List (Option Nat)} : ∀ (l : List Nat) (s : AbS), (∀ c ∈ l, s.1 ≤ v c) → l.foldl (fun s c => stp s (v c, w c)) s = s
  | [], _, _ => rfl
  | x :: l, s, h => by
    rw [List.foldl_cons]
    have e : stp s (v x, w x) = s := if_neg (Nat.not_lt.mpr (h x List.mem_cons_self))
    rw [e]
    exact stf_id l s (fun c hc => h c (List.mem_cons_of_mem _ hc))
theorem fold_cg {S : Type} {f g : S → Nat → S} : ∀ (l : List Nat) (s : S), (∀ c ∈ l, ∀ s, f s c = g s c) → l.foldl f s = l.foldl g s
  | [], _, _ => rfl
  | x :: l, s, h => by
    rw [List.foldl_cons, List.foldl_cons, h x List.mem_cons_self]
    exact fold_cg l _ (fun c hc => h c (List.mem_cons_of_mem _ hc))
theorem fold_mul {S : Type} {f : S → Nat → S} {m : Nat} : ∀ (b : Nat) (s : S), (List.range (b * m)).foldl f s = (List.range b).foldl (fun s k => (List.range m).foldl (fun s c => f s (k * m + c)) s) s
  | 0, s => by rw [Nat.zero_mul]; rfl
  | b + 1, s => by
    rw [Nat.succ_mul, List.range_add, List.foldl_append, fold_mul b s, List.foldl_map, List.range_succ, List.foldl_append, List.foldl_cons, List.foldl_nil]
/-- the reference's search as a tree -/
noncomputable def abt (n : Nat) (K W : Nat → Int32) : Nat → List (Option Nat) → (Nat → Int32) → AbS → AbS
  | 0, path, A, s => stp s (lfv n K W A, path)
  | r + 1, path, A, s => (List.range (Pn n + 1)).foldl (fun s k => abt n K W r (path ++ [pof n k]) (mor n K W (pcO (pof n k) A)) s) s
theorem abt_flat : ∀ r path (A : Nat → Int32) (s : AbS), abt n K W r path A s = (List.range ((Pn n + 1) ^ r)).foldl (fun s c => stp s (lvl n K W (dgs (Pn n + 1) r c) A, path ++ (dgs (Pn n + 1) r c).map (pof n))) s
  | 0, path, A, s => by
    rw [abt, Nat.pow_zero, show List.range 1 = [0] from rfl, List.foldl_cons, List.foldl_nil, dgs, List.map_nil, List.append_nil, lvl]
  | r + 1, path, A, s => by
    rw [abt, Nat.pow_succ, Nat.mul_comm, fold_mul]
    refine fold_cg _ _ (fun k hk s => ?_)
    rw [abt_flat r]
    refine fold_cg _ _ (fun c hc s => ?_)
    have hc' := List.mem_range.mp hc
    have e1 : (k * (Pn n + 1) ^ r + c) / (Pn n + 1) ^ r = k := by
      rw [Nat.add_comm, Nat.add_mul_div_right _ _ (by omega), Nat.div_eq_of_lt hc', Nat.zero_add]
    have e2 : (k * (Pn n + 1) ^ r + c) % (Pn n + 1) ^ r = c := by
      rw [Nat.add_comm, Nat.add_mul_mod_self_right, Nat.mod_eq_of_lt hc']
    rw [dgs, e1, e2, lvl, List.map_cons, List.append_assoc]
    rfl
theorem abt_le {r : Nat} {path : List (Option Nat)} {s : AbS} : (abt n K W r path A s).1 ≤ s.1 := by
  rw [abt_flat]
  exact stf_le _ _
theorem abt_lv {r c : Nat} {path : List (Option Nat)} {s : AbS} (hc : c < (Pn n + 1) ^ r) : (abt n K W r path A s).1 ≤ lvl n K W (dgs (Pn n + 1) r c) A := by
  rw [abt_flat]
  exact stf_mem _ _ c (List.mem_range.mpr hc)
theorem abt_id {r : Nat} {path : List (Option Nat)} {s : AbS} (h : ∀ c, c < (Pn n + 1) ^ r → s.1 ≤ lvl n K W (dgs (Pn n + 1) r c) A) : abt n K W r path A s = s := by
  rw [abt_flat]
  exact stf_id _ _ (fun c hc => h c (List.mem_range.mp hc))
theorem flw_fold {S : Type} {g : Nat → S → S} : ∀ (f k : Nat) (s : S), flw g f k s = (List.range' k f).foldl (fun s k => g k s) s
  | 0, _, _ => rfl
  | f + 1, k, s => by rw [flw, List.range'_succ, List.foldl_cons, flw_fold f]
theorem PN_map : ∀ n, n ≤ 6 → (List.range (Pn n)).map (prn n) = PN n := by decide
/-- peaces between those who are not angry come to what none comes to -/
theorem abl_abt (h6 : n ≤ 6) : ∀ r path (A : Nat → Int32) (s : AbS), R20 A → abl n K W r path A s = abt n K W r path A s
  | 0, path, A, s, _ => by rw [abl, abt, stp]
  | r + 1, path, A, s, hR => by
    have e0 : List.range' 0 16 = 0 :: (List.range 15).map (fun p => p + 1) := by decide
    have e1 : List.range (Pn n + 1) = 0 :: (List.range (Pn n)).map (fun p => p + 1) := List.range_succ_eq_map
    rw [abl, flw_fold, e0, List.foldl_cons, List.foldl_map, abt, e1, List.foldl_cons, List.foldl_map]
    have o0 : opt 0 = none := rfl
    have p0 : pof n 0 = none := rfl
    have q0 : pcO none A = A := rfl
    rw [o0, p0, q0, if_pos (show okO n A none from trivial), abl_abt h6 r _ _ s (R20_mor hR)]
    obtain ⟨t, ht⟩ : ∃ t, abt n K W r (path ++ [none]) (mor n K W A) s = t := ⟨_, rfl⟩
    have hmin : ∀ c, c < (Pn n + 1) ^ r → t.1 ≤ lvl n K W (dgs (Pn n + 1) r c) (mor n K W A) := fun c hc => by
      rw [← ht]
      exact abt_lv hc
    rw [ht]
    have hL : (List.range 15).foldl (fun s p => @ite _ (okO n A (opt (p + 1))) (Classical.propDecidable _) (abl n K W r (path ++ [opt (p + 1)]) (mor n K W (pcO (opt (p + 1)) A)) s) s) t = (PN n).foldl (fun s p => @ite _ (hasA n A p) (Classical.propDecidable _) (abt n K W r (path ++ [some p]) (mor n K W (pcA p A)) s) s) t := by
      rw [PN, fold_filter]
      refine fold_cg _ _ (fun p hp s => ?_)
      have ep : opt (p + 1) = some p := rfl
      rw [ep]
      by_cases c : hasA n A p
      · rw [if_pos (show okO n A (some p) from c), if_pos (decide_eq_true c.1), if_pos c]
        exact abl_abt h6 r _ _ s (R20_mor hR.pc)
      · rw [if_neg (show ¬ okO n A (some p) from c)]
        split <;> rfl
    have hR2 : (List.range (Pn n)).foldl (fun s k => abt n K W r (path ++ [pof n (k + 1)]) (mor n K W (pcO (pof n (k + 1)) A)) s) t = (PN n).foldl (fun s p => abt n K W r (path ++ [some p]) (mor n K W (pcA p A)) s) t := by
      rw [← PN_map n h6, List.foldl_map]
      rfl
    rw [hL, hR2]
    have key : ∀ (L : List Nat) (t : AbS), (∀ p ∈ L, p < 15 ∧ hip p < n) → (∀ c, c < (Pn n + 1) ^ r → t.1 ≤ lvl n K W (dgs (Pn n + 1) r c) (mor n K W A)) → L.foldl (fun s p => @ite _ (hasA n A p) (Classical.propDecidable _) (abt n K W r (path ++ [some p]) (mor n K W (pcA p A)) s) s) t = L.foldl (fun s p => abt n K W r (path ++ [some p]) (mor n K W (pcA p A)) s) t := by
      intro L
      induction L with
      | nil => intro t _ _; rfl
      | cons p L ih =>
        intro t hp hm
        rw [List.foldl_cons, List.foldl_cons]
        have hp' : ∀ p ∈ L, p < 15 ∧ hip p < n := fun q hq => hp q (List.mem_cons_of_mem _ hq)
        by_cases c : hasA n A p
        · rw [if_pos c]
          exact ih _ hp' (fun c hc => Nat.le_trans abt_le (hm c hc))
        · rw [if_neg c]
          obtain ⟨h1, h2⟩ := hp p List.mem_cons_self
          rw [hasA_not hR h1 h2 c, abt_id hm]
          exact ih _ hp' hm
    exact key (PN n) t (fun p hp => PN_mem hp) hmin
theorem dgs_len {b : Nat} : ∀ r c, (dgs b r c).length = r
  | 0, _ => rfl
  | r + 1, c => by rw [dgs, List.length_cons, dgs_len r]
theorem dgs_get {b : Nat} (hb : 0 < b) : ∀ r c j, c < b ^ r → j < r → (dgs b r c)[j]? = some (c / b ^ (r - 1 - j) % b)
  | 0, _, _, _, h => by omega
  | r + 1, c, 0, hc, _ => by
    have h1 : c / b ^ r < b := Nat.div_lt_of_lt_mul (by rw [← Nat.pow_succ]; exact hc)
    rw [dgs, List.getElem?_cons_zero, show r + 1 - 1 - 0 = r by omega, Nat.mod_eq_of_lt h1]
  | r + 1, c, j + 1, hc, hj => by
    have hp : 0 < b ^ r := Nat.pow_pos hb
    rw [dgs, List.getElem?_cons_succ, dgs_get hb r (c % b ^ r) j (Nat.mod_lt _ hp) (by omega), show r + 1 - 1 - (j + 1) = r - 1 - j by omega]
    have e : b ^ r = b ^ (r - 1 - j) * b * b ^ j := by
      rw [← Nat.pow_succ, ← Nat.pow_add]
      congr 1
      omega
    have e2 : c % b ^ r % (b ^ (r - 1 - j) * b) = c % (b ^ (r - 1 - j) * b) := Nat.mod_mod_of_dvd c ⟨b ^ j, e⟩
    rw [← Nat.mod_mul_right_div_self (c % b ^ r), e2, Nat.mod_mul_right_div_self]
/-- the reference's fold over numbers of choices -/
def rst (v : Nat → Nat) (s : Nat × Nat) (c : Nat) : Nat × Nat := if v c < s.1 then (v c, c) else s
theorem rst_0 {v : Nat → Nat} : ∀ (l : List Nat) (s : Nat × Nat), s.1 = 0 → l.foldl (rst v) s = s
  | [], _, _ => rfl
  | c :: l, s, h => by
    have e : rst v s c = s := if_neg (by omega)
    rw [List.foldl_cons, e, rst_0 l s h]
theorem rst_stp {v : Nat → Nat} {w : Nat → List (Option Nat)} {J : Nat → List (Option Nat) → Prop} : ∀ (l : List Nat) (s : Nat × Nat) (s' : AbS), (∀ c ∈ l, J c (w c)) → s.1 = s'.1 → J s.2 s'.2 → (l.foldl (rst v) s).1 = (l.foldl (fun s c => stp s (v c, w c)) s').1 ∧ J (l.foldl (rst v) s).2 (l.foldl (fun s c => stp s (v c, w c)) s').2
  | [], _, _, _, h1, h2 => ⟨h1, h2⟩
  | c :: l, s, s', hw, h1, h2 => by
    rw [List.foldl_cons, List.foldl_cons]
    have hw' : ∀ c ∈ l, J c (w c) := fun c hc => hw c (List.mem_cons_of_mem _ hc)
    by_cases h : v c < s.1
    · have e1 : rst v s c = (v c, c) := if_pos h
      have e2 : stp s' (v c, w c) = (v c, w c) := if_pos (show v c < s'.1 by omega)
      rw [e1, e2]
      exact rst_stp l _ _ hw' rfl (hw c List.mem_cons_self)
    · have e1 : rst v s c = s := if_neg h
      have e2 : stp s' (v c, w c) = s' := if_neg (show ¬ v c < s'.1 by omega)
      rw [e1, e2]
      exact rst_stp l _ _ hw' h1 h2
theorem rst_lt {v : Nat → Nat} {N : Nat} : ∀ (l : List Nat) (s : Nat × Nat), (∀ c ∈ l, c < N) → s.2 < N → (l.foldl (rst v) s).2 < N
  | [], _, _, h => h
  | c :: l, s, hl, h => by
    rw [List.foldl_cons]
    refine rst_lt l _ (fun c hc => hl c (List.mem_cons_of_mem _ hc)) ?_
    unfold rst
    split
    · exact hl c List.mem_cons_self
    · exact h
theorem rst_le {v : Nat → Nat} {l : List Nat} : ∀ (s : Nat × Nat), (l.foldl (rst v) s).1 ≤ s.1 := by
  induction l with
  | nil => intro s; exact Nat.le_refl _
  | cons c l ih =>
    intro s
    rw [List.foldl_cons]
    refine Nat.le_trans (ih _) ?_
    unfold rst
    split
    · rename_i h; exact Nat.le_of_lt h
    · exact Nat.le_refl _
noncomputable def arR (n : Nat) (K W A : Nat → Int32) (m : Nat) : Nat × Nat := (List.range ((Pn n + 1) ^ m)).foldl (rst (fun c => lvl n K W (dgs (Pn n + 1) m c) A)) (99, 0)
/-- what an arbiter tells, by the reference's number -/
theorem abR_arR {m : Nat} (h6 : n ≤ 6) (hR : R20 A) : (abR n K W A m).1 = (arR n K W A m).1 ∧ (arR n K W A m).2 < (Pn n + 1) ^ m ∧ (∀ j, j < m → (((abR n K W A m).2)[j]?).getD none = pof n ((arR n K W A m).2 / (Pn n + 1) ^ (m - 1 - j) % (Pn n + 1))) ∧ ∀ j, m ≤ j → (((abR n K W A m).2)[j]?).getD none = none := by
  have hp : 0 < (Pn n + 1) ^ m := Nat.pow_pos (by omega)
  obtain ⟨h1, h2⟩ := rst_stp (v := fun c => lvl n K W (dgs (Pn n + 1) m c) A) (w := fun c => [] ++ (dgs (Pn n + 1) m c).map (pof n)) (J := fun c l => l = (dgs (Pn n + 1) m c).map (pof n) ∨ (l = [] ∧ c = 0)) (List.range ((Pn n + 1) ^ m)) (99, 0) (99, []) (fun c _ => Or.inl (List.nil_append _)) rfl (Or.inr ⟨rfl, rfl⟩)
  have e : abR n K W A m = (List.range ((Pn n + 1) ^ m)).foldl (fun s c => stp s (lvl n K W (dgs (Pn n + 1) m c) A, [] ++ (dgs (Pn n + 1) m c).map (pof n))) (99, []) := by
    rw [abR, abl_abt h6 m [] A _ hR, abt_flat]
  have hlt : (arR n K W A m).2 < (Pn n + 1) ^ m := rst_lt _ _ (fun c hc => List.mem_range.mp hc) hp
  rw [← e] at h1 h2
  refine ⟨h1.symm, hlt, ?_⟩
  rcases h2 with h2 | ⟨h2, h3⟩
  · have h2' : (abR n K W A m).2 = (dgs (Pn n + 1) m (arR n K W A m).2).map (pof n) := h2
    refine ⟨fun j hj => ?_, fun j hj => ?_⟩
    · rw [h2', List.getElem?_map, dgs_get (by omega) m _ j hlt hj]
      rfl
    · rw [h2', List.getElem?_eq_none (by rw [List.length_map, dgs_len]; exact hj)]
      rfl
  · have h3' : (arR n K W A m).2 = 0 := h3
    refine ⟨fun j hj => ?_, fun j hj => ?_⟩
    · rw [h2, h3', Nat.zero_div, Nat.zero_mod]
      rfl
    · rw [h2]
      rfl
end AB

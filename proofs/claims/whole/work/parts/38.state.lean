/-! The state of both, and how the one and the other hold it. -/
abbrev Ab : Type := Sq × Sg × Nat × (Nat → Nat) × Option (Sq × Sg) × Nat × Nat × Nat
def xs (X : Ab) : Sq := X.1
def xg (X : Ab) : Sg := X.2.1
def xL (X : Ab) : Nat := X.2.2.1
def xp (X : Ab) : Nat → Nat := X.2.2.2.1
def xi (X : Ab) : Option (Sq × Sg) := X.2.2.2.2.1
def xr (X : Ab) : Nat := X.2.2.2.2.2.1
def xc (X : Ab) : Nat := X.2.2.2.2.2.2.1
def xa (X : Ab) : Nat := X.2.2.2.2.2.2.2
section ST
variable {σ σ' : St} {X : Ab}
theorem SqAt.fr {q : Nat} {s : Sq} (h : SqAt σ q s) (e : ∀ t, (t = 5 ∨ (11 ≤ t ∧ t ≤ 17)) → ar σ' t q = ar σ t q) : SqAt σ' q s := by
  unfold SqAt Lv at h ⊢
  rw [e 5 (by omega), e 11 (by omega), e 17 (by omega), e 16 (by omega), e 13 (by omega), e 12 (by omega), e 14 (by omega), e 15 (by omega)]
  exact h
theorem SgAt.fr {q : Nat} {g : Sg} (h : SgAt σ q g) (e : ∀ t, (t = 4 ∨ (18 ≤ t ∧ t ≤ 20)) → ar σ' t q = ar σ t q) : SgAt σ' q g := by
  unfold SgAt at h ⊢
  rw [e 4 (by omega), e 18 (by omega), e 19 (by omega), e 20 (by omega)]
  exact h
theorem PgAt.fr {L : Nat} {p : Nat → Nat} (h : PgAt σ L p) (e : ∀ t, (t = 2 ∨ t = 10) → ar σ' t 0 = ar σ t 0) : PgAt σ' L p := by
  unfold PgAt at h ⊢
  rw [e 2 (by omega), e 10 (by omega)]
  exact h
/-- the class's image -/
def CiAt (σ : St) (o : Option (Sq × Sg)) : Prop := match o with
  | some (s, g) => SqAt σ 1 s ∧ SgAt σ 1 g ∧ ar σ 6 0 8 = 1
  | none => ar σ 6 0 8 = 0
theorem CiAt.fr {o : Option (Sq × Sg)} (h : CiAt σ o) (e : ∀ t, (t = 4 ∨ t = 5 ∨ (11 ≤ t ∧ t ≤ 20)) → ar σ' t 1 = ar σ t 1) (e6 : ar σ' 6 0 8 = ar σ 6 0 8) : CiAt σ' o := by
  cases o with
  | none => exact e6.trans h
  | some x => exact ⟨h.1.fr (fun t ht => e t (by omega)), h.2.1.fr (fun t ht => e t (by omega)), e6.trans h.2.2⟩
/-- the class holds it -/
def CAt (σ : St) (X : Ab) : Prop := SqAt σ 0 (xs X) ∧ SgAt σ 0 (xg X) ∧ PgAt σ (xL X) (xp X) ∧ CiAt σ (xi X) ∧ ar σ 6 0 9 = nI (xr X) ∧ ar σ 6 0 10 = nI (xc X) ∧ ar σ 6 0 11 = nI (xa X)
theorem CAt.fr (h : CAt σ X) (e : ∀ t q, q ≤ 1 → (t = 2 ∨ t = 4 ∨ t = 5 ∨ t = 6 ∨ (10 ≤ t ∧ t ≤ 20)) → ar σ' t q = ar σ t q) : CAt σ' X := by
  obtain ⟨h1, h2, h3, h4, h5, h6, h7⟩ := h
  have e6 := e 6 0 (by omega) (by omega)
  exact ⟨h1.fr (fun t ht => e t 0 (by omega) (by omega)), h2.fr (fun t ht => e t 0 (by omega) (by omega)), h3.fr (fun t ht => e t 0 (by omega) (by omega)), h4.fr (fun t ht => e t 1 (by omega) (by omega)) (by rw [e6]), by rw [e6]; exact h5, by rw [e6]; exact h6, by rw [e6]; exact h7⟩
theorem CAt.scr (h : CAt σ X) (g : Ag Scr σ σ') : CAt σ' X := h.fr (fun t q hq ht => g.1 t q (by unfold Scr; omega))
/-- the reference's image -/
def MkAt (σ : St) (o : Option (Sq × Sg)) (r : Nat) : Prop := match o with
  | some (s, g) => ar σ 7 0 30 = nI r ∧ (∀ a, a < 6 → ar σ 48 0 a = qK s a) ∧ (∀ a, a < qn s → ar σ 49 0 a = qT s a) ∧ (∀ a, a < qn s → ar σ 50 0 a = qC s a) ∧ (∀ j, j < 36 → ar σ 51 0 j = qA s j) ∧ (∀ j, j < 36 → ar σ 52 0 j = qW s j) ∧ ar σ 7 0 31 = nI (qm s) ∧ ar σ 7 0 32 = qt s ∧ ar σ 7 0 33 = qq s ∧ ar σ 7 0 34 = qp s ∧ ar σ 7 0 35 = nI (gl g) ∧ ∀ i, i < gl g → ar σ 53 0 (3 * i) = nI (gh g i) ∧ ar σ 53 0 (3 * i + 1) = en (gf g i) ∧ ar σ 53 0 (3 * i + 2) = nI (gm g i)
  | none => ∃ k : Option Nat, ar σ 7 0 30 = en k ∧ ∀ x, k = some x → x < r
theorem MkAt.fr {o : Option (Sq × Sg)} {r : Nat} (h : MkAt σ o r) (e : ∀ t, 48 ≤ t → t ≤ 53 → ar σ' t 0 = ar σ t 0) (e7 : ∀ j, 30 ≤ j → j ≤ 35 → ar σ' 7 0 j = ar σ 7 0 j) : MkAt σ' o r := by
  cases o with
  | none =>
    unfold MkAt at h ⊢
    dsimp only at h ⊢
    rw [e7 30 (by omega) (by omega)]
    exact h
  | some x =>
    unfold MkAt at h ⊢
    dsimp only at h ⊢
    rw [e7 30 (by omega) (by omega), e7 31 (by omega) (by omega), e7 32 (by omega) (by omega), e7 33 (by omega) (by omega), e7 34 (by omega) (by omega), e7 35 (by omega) (by omega), e 48 (by omega) (by omega), e 49 (by omega) (by omega), e 50 (by omega) (by omega), e 51 (by omega) (by omega), e 52 (by omega) (by omega), e 53 (by omega) (by omega)]
    exact h
def MfAt (σ : St) (s : Sq) : Prop := (∀ a, a < qn s → ar σ 32 0 a = qV s a) ∧ (∀ a, a < qn s → ar σ 33 0 a = qT s a) ∧ (∀ a, a < qn s → ar σ 34 0 a = qC s a) ∧ ar σ 7 0 4 = nI (qm s) ∧ ar σ 7 0 5 = qt s ∧ ar σ 7 0 6 = qq s ∧ ar σ 7 0 7 = qp s
theorem MfAt.fr {s : Sq} (h : MfAt σ s) (e : ∀ t, 32 ≤ t → t ≤ 34 → ar σ' t 0 = ar σ t 0) (e7 : ∀ j, 4 ≤ j → j ≤ 7 → ar σ' 7 0 j = ar σ 7 0 j) : MfAt σ' s := by
  unfold MfAt at h ⊢
  rw [e 32 (by omega) (by omega), e 33 (by omega) (by omega), e 34 (by omega) (by omega), e7 4 (by omega) (by omega), e7 5 (by omega) (by omega), e7 6 (by omega) (by omega), e7 7 (by omega) (by omega)]
  exact h
/-- the reference holds it -/
def MAt (σ : St) (X : Ab) : Prop := Mr σ (qn (xs X)) (qK (xs X)) (qW (xs X)) ∧ Tb σ 35 (qA (xs X)) ∧ Sm σ (xg X) ∧ MpAt σ (xL X) (xp X) ∧ MfAt σ (xs X) ∧ MkAt σ (xi X) (xr X) ∧ ar σ 7 0 8 = nI (xr X) ∧ ar σ 7 0 20 = nI (xc X) ∧ ar σ 7 0 23 = nI (xa X)
theorem Mr.fr {n : Nat} {K W : Nat → Int32} (h : Mr σ n K W) (e3 : ar σ' 7 0 3 = ar σ 7 0 3) (e31 : ar σ' 31 0 = ar σ 31 0) (e36 : ar σ' 36 0 = ar σ 36 0) : Mr σ' n K W := by
  unfold Mr at h ⊢
  rw [e3, e31, e36]
  exact h
theorem Sm.fr {g : Sg} (h : Sm σ g) (e24 : ar σ' 7 0 24 = ar σ 7 0 24) (e44 : ar σ' 44 0 = ar σ 44 0) : Sm σ' g := by
  unfold Sm at h ⊢
  rw [e24, e44]
  exact h
theorem MpAt.fr {L : Nat} {p : Nat → Nat} (h : MpAt σ L p) (e1 : ar σ' 7 0 1 = ar σ 7 0 1) (e30 : ar σ' 30 0 = ar σ 30 0) : MpAt σ' L p := by
  unfold MpAt at h ⊢
  rw [e1, e30]
  exact h
/-- all that the reference keeps, but walls -/
def Kp (σ σ' : St) : Prop := (∀ t, ((30 ≤ t ∧ t ≤ 35) ∨ t = 44 ∨ (48 ≤ t ∧ t ≤ 53)) → ar σ' t 0 = ar σ t 0) ∧ ∀ j, j ≠ 2 → j ≠ 29 → ar σ' 7 0 j = ar σ 7 0 j
theorem MAt.kp (h : MAt σ X) (g : Kp σ σ') (hr : Mr σ' (qn (xs X)) (qK (xs X)) (qW (xs X))) : MAt σ' X := by
  obtain ⟨h1, h2, h3, h4, h5, h6, h7, h8, h9⟩ := h
  obtain ⟨e, e7⟩ := g
  refine ⟨hr, fun j hj => ?_, h3.fr (e7 24 (by omega) (by omega)) (e 44 (by omega)), h4.fr (e7 1 (by omega) (by omega)) (e 30 (by omega)), h5.fr (fun t h1 h2 => e t (by omega)) (fun j h1 h2 => e7 j (by omega) (by omega)), h6.fr (fun t h1 h2 => e t (by omega)) (fun j h1 h2 => e7 j (by omega) (by omega)), ?_, ?_, ?_⟩
  · rw [e 35 (by omega)]; exact h2 j hj
  · rw [e7 8 (by omega) (by omega)]; exact h7
  · rw [e7 20 (by omega) (by omega)]; exact h8
  · rw [e7 23 (by omega) (by omega)]; exact h9
theorem MAt.qf (h : MAt σ X) (g : QF σ σ') : MAt σ' X := h.kp ⟨fun t ht => g.1 t 0 (by unfold QM; omega), fun j h1 h2 => g.2.1 j h2 h1⟩ (h.1.qf g)
theorem MAt.qm (h : MAt σ X) (g : Ag QM σ σ') : MAt σ' X := h.qf (QF.of g)
theorem MAt.fr (h : MAt σ X) (e : ∀ t, (t = 7 ∨ 30 ≤ t) → ar σ' t 0 = ar σ t 0) : MAt σ' X := h.kp ⟨fun t ht => e t (by omega), fun j _ _ => by rw [e 7 (by omega)]⟩ (h.1.fr (by rw [e 7 (by omega)]) (e 31 (by omega)) (e 36 (by omega)))
/-- what a square is in any case -/
def GS (s : Sq) : Prop := (qn s = 0 ∨ 3 ≤ qn s) ∧ qn s ≤ 6 ∧ W01 (qW s) ∧ WS (qW s) ∧ (∀ a, a < 6 → qW s (7 * a) = 0) ∧ ZA (qn s) (qA s) ∧ R20 (qA s) ∧ qm s ≤ 999
def WfX (X : Ab) : Prop := GS (xs X) ∧ sgW (qn (xs X)) (xg X) ∧ gl (xg X) ≤ 8 ∧ xc X ≤ 20 ∧ xa X ≤ 12 ∧ ∀ s g, xi X = some (s, g) → GS s ∧ sgW (qn s) g ∧ gl g ≤ 8 ∧ qn s = qn (xs X) ∧ (∀ a, a < qn s → qV s a = qV (xs X) a) ∧ 0 < qn s
/-- the class's part of the store, and the reference's -/
def CB : Nat → Nat → Prop := fun t _ => t ≤ 6 ∨ (10 ≤ t ∧ t < 30)
def AgM (σ σ' : St) : Prop := (∀ t q, ¬ (q = 0 ∧ (t = 7 ∨ 30 ≤ t)) → ar σ' t q = ar σ t q) ∧ σ'.2.2 = σ.2.2
theorem AgM.rf : AgM σ σ := ⟨fun _ _ _ => rfl, rfl⟩
theorem AgM.of {S : Nat → Nat → Prop} (g : Ag S σ σ') (h : ∀ t q, S t q → q = 0 ∧ (t = 7 ∨ 30 ≤ t)) : AgM σ σ' := ⟨fun t q z => g.1 t q (fun y => z (h t q y)), by rw [g.2]⟩
theorem AgM.qm (g : Ag QM σ σ') : AgM σ σ' := AgM.of g (fun t q z => by unfold QM at z; omega)
theorem AgM.qf (g : QF σ σ') : AgM σ σ' := ⟨fun t q z => g.1 t q (by unfold QM; omega), by rw [g.2.2]⟩
theorem AgM.tr {σ'' : St} (h1 : AgM σ σ') (h2 : AgM σ' σ'') : AgM σ σ'' := ⟨fun t q z => (h2.1 t q z).trans (h1.1 t q z), h2.2.trans h1.2⟩
theorem CB.scr (g : Ag Scr σ σ') : Ag CB σ σ' := g.mono (fun t q z => by unfold Scr at z; unfold CB; omega)
theorem CB.sb {q : Nat} (g : Ag (SB q) σ σ') : Ag CB σ σ' := g.mono (fun t q z => by unfold SB at z; unfold CB; omega)
theorem CB.sa {q : Nat} (g : Ag (SA q) σ σ') : Ag CB σ σ' := CB.sb g.SA_SB
/-- a call of both: the same answer, and both hold the same again -/
def Step (d k1 k2 : Nat) (as : List IV) (X : Ab) (σ : St) : Prop := ∃ (v : Int32) (σ1 σ2 : St) (X' : Ab), call (d + 12) k1 (vR 6 0 :: as) σ = some (some (vI v), σ1) ∧ call (d + 12) k2 (vR 7 0 :: as) σ1 = some (some (vI v), σ2) ∧ CAt σ2 X' ∧ MAt σ2 X' ∧ WfX X' ∧ xr X' ≤ xr X + 1 ∧ σ1.2.2 = σ.2.2 ∧ σ2.2.2 = σ.2.2 ∧ Wf σ2
theorem Step.mk {d k1 k2 : Nat} {as : List IV} {v : IV} {σ1 σ2 : St} {X' : Ab} (hw : Wf σ) (e1 : call (d + 12) k1 (vR 6 0 :: as) σ = some (some v, σ1)) (g1 : Ag CB σ σ1) (c1 : CAt σ1 X') (e2 : call (d + 12) k2 (vR 7 0 :: as) σ1 = some (some v, σ2)) (g2 : AgM σ1 σ2) (m2 : MAt σ2 X') (w : WfX X') (hr : xr X' ≤ xr X + 1) (hv : ∃ x, v = vI x := by exact ⟨_, rfl⟩) : Step d k1 k2 as X σ := by
  obtain ⟨x, rfl⟩ := hv
  exact ⟨x, σ1, σ2, X', e1, e2, c1.fr (fun t q hq ht => g2.1 t q (by omega)), m2, w, hr, by rw [g1.2], by rw [g2.2, g1.2], call_wf e2 (call_wf e1 hw)⟩
/-- one that answers a long -/
def StepL (d k1 k2 : Nat) (X : Ab) (σ : St) : Prop := ∃ (v : Int64) (σ1 σ2 : St) (X' : Ab), call (d + 12) k1 [vR 6 0] σ = some (some (vL v), σ1) ∧ call (d + 12) k2 [vR 7 0] σ1 = some (some (vL v), σ2) ∧ CAt σ2 X' ∧ MAt σ2 X' ∧ WfX X' ∧ xr X' ≤ xr X + 1 ∧ σ1.2.2 = σ.2.2 ∧ σ2.2.2 = σ.2.2 ∧ Wf σ2
theorem MAt.cb (h : MAt σ X) (g : Ag CB σ σ') : MAt σ' X := h.fr (fun t ht => g.1 t 0 (by unfold CB; omega))
/-- a call that changes nothing of it -/
theorem Step.rd {d k1 k2 : Nat} {as : List IV} {v : IV} {σ1 : St} (hw : Wf σ) (hc : CAt σ X) (hm : MAt σ X) (hx : WfX X) (e1 : call (d + 12) k1 (vR 6 0 :: as) σ = some (some v, σ1)) (g1 : Ag Scr σ σ1) (e2 : MAt σ1 X → ∃ σ2, call (d + 12) k2 (vR 7 0 :: as) σ1 = some (some v, σ2) ∧ QF σ1 σ2) (hv : ∃ x, v = vI x := by exact ⟨_, rfl⟩) : Step d k1 k2 as X σ := by
  have m1 := hm.cb (CB.scr g1)
  obtain ⟨σ2, e2, g2⟩ := e2 m1
  exact Step.mk hw e1 (CB.scr g1) (hc.scr g1) e2 (AgM.qf g2) (m1.qf g2) hx (by omega) hv
end ST

section
/-! 'new int[n][k]' straight from the machine: no law of the library's rest is called. -/
/-- the outer row when i inner ones are laid -/
def mx_o (cA : ClassId) (N h i : Nat) : Cell := arrV cA N (fun j => va_rf (if j < i then some (h + 1 + j) else none))
/-- a fresh inner row -/
def mx_i (cI : ClassId) (K : Nat) : Cell := arrV cI K (fun _ => .int 0)
theorem mx_o_size (cA : ClassId) (N h i : Nat) : (mx_o cA N h i).slots.size = N := arrV_size cA N _
theorem mx_i_size (cI : ClassId) (K : Nat) : (mx_i cI K).slots.size = K := arrV_size cI K _
theorem mx_o_next (cA : ClassId) (N h i : Nat) : (mx_o cA N h i).setSlot i (.ref (h + 1 + i)) = mx_o cA N h (i + 1) := by
  refine (arrV_store cA N i _ _).trans (congrArg (arrV cA N) (funext fun j => ?_))
  show updV _ i _ j = _
  unfold updV
  by_cases h1 : j = i
  · rw [if_pos h1, if_pos (by omega), h1]
    rfl
  · rw [if_neg h1]
    show va_rf (if j < i then some (h + 1 + j) else none) = _
    by_cases h2 : j < i
    · rw [if_pos h2, if_pos (by omega)]
    · rw [if_neg h2, if_neg (by omega)]
theorem mx_o_new (cA : ClassId) (N h : Nat) : ({ cls := cA, slots := Array.replicate N .null } : Cell) = mx_o cA N h 0 :=
  (arrV_new cA N .null).trans (congrArg (arrV cA N) (funext fun j => by rw [if_neg (Nat.not_lt_zero j)]; rfl))
theorem mx_i_new (cI : ClassId) (K : Nat) : ({ cls := cI, slots := Array.replicate K (.int 0) } : Cell) = mx_i cI K := arrV_new cI K (.int 0)
/-- the outer row at the heap's end, i inner ones behind it -/
def mx_t (s : State) (cA cI : ClassId) (N K : Nat) : Nat → State
  | 0 => s.pushCell (mx_o cA N s.heap.size 0)
  | i + 1 => ((mx_t s cA cI N K i).pushCell (mx_i cI K)).setCell s.heap.size (mx_o cA N s.heap.size (i + 1))
/-- what such a state shows -/
def mx_H (s : State) (cA cI : ClassId) (N K i : Nat) (U : State) : Prop :=
  (U.heap.size = s.heap.size + 1 + i ∧ U.vm = s.vm ∧ U.slotsUsed = s.slotsUsed + N + i * K) ∧ (∀ x : Nat, x < s.heap.size → U.heap[x]? = s.heap[x]?) ∧ U.heap[s.heap.size]? = some (mx_o cA N s.heap.size i) ∧ ∀ j : Nat, j < i → U.heap[s.heap.size + 1 + j]? = some (mx_i cI K)
section MX0
variable {s : State} {cA cI : ClassId} {N K : Nat}
theorem mx_H_more {i : Nat} {U : State} (h : mx_H s cA cI N K i U) : mx_H s cA cI N K (i + 1) ((U.pushCell (mx_i cI K)).setCell s.heap.size (mx_o cA N s.heap.size (i + 1))) := by
  obtain ⟨⟨a, b, u⟩, o, q, r⟩ := h
  have hlt : s.heap.size < U.heap.size := by omega
  have hq : (U.pushCell (mx_i cI K)).heap[s.heap.size]? = some (mx_o cA N s.heap.size i) := (State.heap_pushCell_of_lt _ _ hlt).trans q
  refine ⟨⟨?_, b, ?_⟩, fun x hx => ?_, State.heap_setCell_self hq, fun j hj => ?_⟩
  · show ((U.heap.push (mx_i cI K)).setIfInBounds s.heap.size _).size = _
    rw [Array.size_setIfInBounds, Array.size_push]
    omega
  · show U.slotsUsed + (mx_i cI K).slots.size = _
    rw [mx_i_size, u, Nat.succ_mul]
    omega
  · have hx1 : s.heap.size ≠ x := by omega
    have hx2 : x < U.heap.size := by omega
    exact (State.heap_setCell_other hx1).trans ((State.heap_pushCell_of_lt _ _ hx2).trans (o x hx))
  · have hj1 : s.heap.size ≠ s.heap.size + 1 + j := by omega
    refine (State.heap_setCell_other hj1).trans ?_
    by_cases e : j = i
    · subst e
      rw [← a]
      exact State.heap_pushCell_size _ _
    · have hj2 : s.heap.size + 1 + j < U.heap.size := by omega
      exact (State.heap_pushCell_of_lt _ _ hj2).trans (r j (by omega))
theorem mx_t_H (s : State) (cA cI : ClassId) (N K : Nat) : ∀ i : Nat, mx_H s cA cI N K i (mx_t s cA cI N K i)
  | 0 => by
    refine ⟨⟨?_, rfl, ?_⟩, fun x hx => State.heap_pushCell_of_lt _ _ hx, State.heap_pushCell_size _ _, fun j hj => absurd hj (Nat.not_lt_zero j)⟩
    · show (s.heap.push _).size = _
      rw [Array.size_push]
    · show s.slotsUsed + (mx_o cA N s.heap.size 0).slots.size = _
      rw [mx_o_size]
      omega
  | i + 1 => mx_H_more (mx_t_H s cA cI N K i)
theorem mx_t_top (s : State) (f : JFrame) (cA cI : ClassId) (N K : Nat) : ∀ i : Nat, mx_t (s.setTop f) cA cI N K i = (mx_t s cA cI N K i).setTop f
  | 0 => rfl
  | i + 1 => by
    show ((mx_t (s.setTop f) cA cI N K i).pushCell _).setCell _ _ = _
    rw [mx_t_top s f cA cI N K i]
    rfl
end MX0
section MX1
variable {E : CtlPost} {e : Env} {d : Bool} {acts : List Action} {s : State}
theorem mx_row {cI cc : ClassId} {kI : Class} {k : Int32} (hk : s.vm.classes[cI]? = some kI) (hkind : kI.kind = .array cc .int) (hneg : ¬ k < 0) (hlen : ¬ k.toNatClampNeg > e.platform.arrayLengthLimit) (hbytes : ¬ k.toNatClampNeg * componentBytes .int > e.platform.maxHeapBytes)
    (h1 : s.heap.size < e.platform.maxCells) (h2 : s.slotsUsed + k.toNatClampNeg ≤ e.platform.maxSlots) {Q : Addr → Pre} (hq : ∀ acts' : List Action, Q s.heap.size d acts' (s.pushCell (mx_i cI k.toNatClampNeg))) : wp (multianewarray.make cI [k]) Q E e d acts s := by
  unfold multianewarray.make
  simp only [wp_bind', W.ite, hneg, if_false, wp_pure', W.theClass, hk, hkind, Option.some.injEq, exists_eq_left']
  refine W.newArray_of hk hkind hlen hbytes h1 h2 rfl (fun acts' => ?_)
  rw [show (defaultValue FieldType.int) = Value.int 0 from rfl, mx_i_new]
  exact hq acts'
theorem mx_rows {cA cI cc : ClassId} {kA kI : Class} {n k : Int32} (hkA : s.vm.classes[cA]? = some kA) (hkindA : kA.kind = .array cI (.array .int)) (hkI : s.vm.classes[cI]? = some kI) (hkindI : kI.kind = .array cc .int) (hn : ¬ n < 0) (hneg : ¬ k < 0)
    (hlenA : ¬ n.toNatClampNeg > e.platform.arrayLengthLimit) (hbytesA : ¬ n.toNatClampNeg * componentBytes (.array .int) > e.platform.maxHeapBytes) (hlen : ¬ k.toNatClampNeg > e.platform.arrayLengthLimit) (hbytes : ¬ k.toNatClampNeg * componentBytes .int > e.platform.maxHeapBytes)
    (h1 : s.heap.size + 1 + n.toNatClampNeg ≤ e.platform.maxCells) (h2 : s.slotsUsed + n.toNatClampNeg + n.toNatClampNeg * k.toNatClampNeg ≤ e.platform.maxSlots) {Q : Addr → Pre}
    (hq : ∀ (d' : Bool) (acts' : List Action), Q s.heap.size d' acts' (mx_t s cA cI n.toNatClampNeg k.toNatClampNeg n.toNatClampNeg)) : wp (multianewarray.make cA [n, k]) Q E e d acts s := by
  have hno : ([k].find? (· < 0)) = none := by
    rw [List.find?_cons_of_neg (by simpa using hneg)]
    rfl
  unfold multianewarray.make
  simp only [wp_bind', W.ite, hn, if_false, wp_pure', W.theClass, hkA, hkindA, Option.some.injEq, exists_eq_left']
  refine W.newArray_of hkA hkindA hlenA hbytesA (by omega) (by omega) rfl (fun acts' => ?_)
  rw [mx_o_new cA n.toNatClampNeg s.heap.size]
  simp only [hno]
  rw [ite_self, wp_bind', Std.Legacy.Range.forIn_eq_forIn_range']
  refine wp_forIn_inv (fun rest U => ∃ i : Nat, rest = List.range' i (n.toNatClampNeg - i) ∧ i ≤ n.toNatClampNeg ∧ U = mx_t s cA cI n.toNatClampNeg k.toNatClampNeg i) _ _ ⟨0, by simp [Std.Legacy.Range.size], Nat.zero_le _, rfl⟩ (fun x rest U d1 acts1 Q1 hI next => ?_) (fun U d1 acts1 hI => ?_)
  · obtain ⟨i, hr, hi, rfl⟩ := hI
    cases hm : n.toNatClampNeg - i with
    | zero => rw [hm] at hr; cases hr
    | succ z =>
      rw [hm, List.range'_succ] at hr
      obtain ⟨rfl, rfl⟩ := List.cons.inj hr
      obtain ⟨⟨a, b, u⟩, -, q, -⟩ := mx_t_H s cA cI n.toNatClampNeg k.toNatClampNeg x
      have hmul : (x + 1) * k.toNatClampNeg ≤ n.toNatClampNeg * k.toNatClampNeg := Nat.mul_le_mul_right _ (by omega)
      rw [Nat.succ_mul] at hmul
      rw [wp_bind']
      refine mx_row (by rw [b]; exact hkI) hkindI hneg hlen hbytes (by omega) (by omega) (fun acts2 => ?_)
      simp only [wp_bind', W.writeLoc, wp_pure']
      have hlt : s.heap.size < (mx_t s cA cI n.toNatClampNeg k.toNatClampNeg x).heap.size := by omega
      refine ⟨mx_o cA n.toNatClampNeg s.heap.size x, (State.heap_pushCell_of_lt _ _ hlt).trans q, (fun h => by cases h), (by rw [mx_o_size]; omega), ?_, next _ _ _ ⟨x + 1, ?_, by omega, ?_⟩⟩
      · show State.fitsSlot _ cA .none x _ = true
        simp [State.fitsSlot, State.slotType?, b, hkA, hkindA]
        rfl
      · rw [show n.toNatClampNeg - (x + 1) = z by omega]
      · rw [a, mx_o_next]
        rfl
  · obtain ⟨i, hr, hi, rfl⟩ := hI
    cases hm : n.toNatClampNeg - i with
    | zero =>
      have e : i = n.toNatClampNeg := by omega
      subst e
      exact hq _ _
    | succ z => rw [hm, List.range'_succ] at hr; cases hr
end MX1
section MX2
variable {s : State}
/-- arrays of arrays can be made: which classes -/
theorem mx_over {args : Array Value} {first : State} {o : Option Outcome} {idx : List Nat} {t : FieldType} (h : (Cond.arrayOver (.array t)).holds args first o s idx = true) :
    ∃ (x y : ClassId) (k : Class), s.vm.findClass (FieldType.array t).toString = some x ∧ (s.vm.classes.findIdx? fun x1 => match x1.kind with | .array component _ => component == x | _ => false) = some y ∧ s.vm.classes[y]? = some k ∧ k.kind = .array x (.array t) ∧ s.vm.findClass ("[" ++ (FieldType.array t).toString) = some y := by
  have h0 : Cond.value args first o s idx (Cond.arrayOver (.array t)) = some true := by
    simpa [Cond.holds] using h
  unfold Cond.value at h0
  obtain ⟨x, hx, h1⟩ := Option.bind_eq_some_iff.mp h0
  obtain ⟨y, hy, h2⟩ := Option.bind_eq_some_iff.mp h1
  obtain ⟨k, hk, h3⟩ := Option.map_eq_some_iff.mp h2
  obtain ⟨hlt, hp, -⟩ := Array.findIdx?_eq_some_iff_getElem.mp hy
  have hkk : s.vm.classes[y] = k := (Array.getElem?_eq_some_iff.mp hk).2
  rw [hkk] at hp
  refine ⟨x, y, k, hx, hy, hk, ?_⟩
  revert hp h3
  cases k.kind with
  | array component ty =>
    intro hp h3
    simp only [Bool.and_eq_true, decide_eq_true_eq, beq_iff_eq] at hp h3
    exact ⟨by rw [h3, hp.1], hp.2⟩
  | _ => intro hp h3; exact absurd h3 (by simp)
theorem mx_over_moved {args args' : Array Value} {first first' U : State} {o o' : Option Outcome} {idx idx' : List Nat} {t : FieldType} (hal : s.vm.Alike U.vm) (h : (Cond.arrayOver (.array t)).holds args first o s idx = true) : (Cond.arrayOver (.array t)).holds args' first' o' U idx' = true := by
  obtain ⟨x, y, k, hx, hy, hk, hkind, hn⟩ := mx_over h
  obtain ⟨k', hk', hb⟩ := hal.2.2 _ _ hk
  rw [← hal.findClass] at hx hn
  rw [← hal.findIdx?_eqK _ (fun _ => rfl)] at hy
  have hkind' : k'.kind = .array x (.array t) := by rw [hb]; exact hkind
  have h0 : Cond.value args' first' o' U idx' (Cond.arrayOver (.array t)) = some true := by
    unfold Cond.value
    refine Option.bind_eq_some_iff.mpr ⟨x, hx, Option.bind_eq_some_iff.mpr ⟨y, hy, Option.map_eq_some_iff.mpr ⟨k', hk', ?_⟩⟩⟩
    rw [hkind']
    simp [hn]
  simp [Cond.holds, h0]
variable {p : Program} {l : Launch} {e : Env} {R : Room} {m : MethodId} {args : Array Value} {below : List Frame} {meth : Method} {c : Code} {T : State} {locs : List Loc} {cells slots : Nat}
theorem mx_stand (X : Stand p l e R s m args below meth c T locs cells slots) (cA cI : ClassId) (N K : Nat) : ∀ i : Nat, Stand p l e R s m args below meth c (mx_t T cA cI N K i) locs (cells + 1 + i) (slots + N + i * K)
  | 0 => by
    have h := X.pushed (mx_o cA N T.heap.size 0)
    rw [mx_o_size] at h
    rw [Nat.zero_mul]
    exact h
  | i + 1 => by
    obtain ⟨⟨a, -, -⟩, -, q, -⟩ := mx_t_H T cA cI N K i
    have hlt : T.heap.size < (mx_t T cA cI N K i).heap.size := by omega
    have h := ((mx_stand X cA cI N K i).pushed (mx_i cI K)).stored (a := T.heap.size) ((State.heap_pushCell_of_lt _ _ hlt).trans q) i (.ref (T.heap.size + 1 + i))
    rw [mx_o_next, mx_i_size] at h
    have h' := h.dropFresh (fun x hx => by rw [List.mem_singleton.mp hx]; exact X.heapGrown)
    rw [Nat.succ_mul, ← Nat.add_assoc (slots + N)]
    exact h'
theorem mx_step (X : Stand p l e R s m args below meth c T locs cells slots) (hexec : p.tables.exec = Jvm.exec) {own : String} {index : Nat} (hown : s.vm.findClass own = some m.cls) (hlink : (Cond.classLink own index ("[" ++ (FieldType.array .int).toString)).before args s = true)
    (hover : (Cond.arrayOver (.array .int)).before args s = true) (harr : (Cond.arrayClass .int).before args s = true) {pc : Nat} {ls : Array Slot} {rest : List Value} {n k : Int32} (hdg : decode c.code pc = .ok (.multianewarray index 2, 4)) (hn : ¬ n < 0) (hk : ¬ k < 0)
    (hb1 : n.toNatClampNeg * 4 ≤ 536870912) (hb2 : k.toNatClampNeg * 4 ≤ 536870912) (hcells : cells + (1 + n.toNatClampNeg) ≤ R.cells) (hslots : slots + (n.toNatClampNeg + n.toNatClampNeg * k.toNatClampNeg) ≤ R.slots) :
    ∃ (cA cI : ClassId) (U : State), (s.vm.findClass ("[" ++ (FieldType.array .int).toString) = some cA ∧ s.vm.findClass (FieldType.array .int).toString = some cI) ∧ Stand p l e R s m args below meth c U locs (cells + 1 + n.toNatClampNeg) (slots + n.toNatClampNeg + n.toNatClampNeg * k.toNatClampNeg) ∧
      (U.heap.size = T.heap.size + 1 + n.toNatClampNeg ∧ (∀ x : Nat, x < T.heap.size → U.heap[x]? = T.heap[x]?) ∧ U.heap[T.heap.size]? = some (mx_o cA n.toNatClampNeg T.heap.size n.toNatClampNeg) ∧ ∀ j : Nat, j < n.toNatClampNeg → U.heap[T.heap.size + 1 + j]? = some (mx_i cI k.toNatClampNeg)) ∧
      ∀ target : State, Steps p.tables e below (U.setTop (F0 m (pc + 4) ls (.ref T.heap.size :: rest))) target → Steps p.tables e below (T.setTop (F0 m pc ls (.int k :: .int n :: rest))) target := by
  have hpl : e.platform.magicAccessors = ({} : Platform).magicAccessors := by rw [X.admits.platform]
  obtain ⟨cI, cA, kA, hfI, -, hkA, hkindA, hfA⟩ := mx_over hover
  obtain ⟨cI', kI, cc, hfI', hkI, hkindI⟩ := Cond.arrayClass_spec harr
  have eI : cI' = cI := Option.some.inj (hfI'.symm.trans hfI)
  subst eI
  obtain ⟨cA', hfA', hcl⟩ := Cond.classLink_spec hown hlink e.platform hpl
  have eA : cA' = cA := Option.some.inj (hfA'.symm.trans hfA)
  subst eA
  obtain ⟨hg, hwarm, -⟩ := State.classEntry (e := e) X.warmed hcl
  generalize T.vm.noted m.cls index (.cls cA') = vm1 at hg hwarm
  obtain ⟨kA1, hkA1, heA⟩ := hwarm.alike.2.2 _ _ hkA
  obtain ⟨kI1, hkI1, heI⟩ := hwarm.alike.2.2 _ _ hkI
  have X1 := X.noted hwarm
  have XU := mx_stand X1 cA' cI' n.toNatClampNeg k.toNatClampNeg n.toNatClampNeg
  obtain ⟨⟨a, -, -⟩, o, q, r⟩ := mx_t_H (T.setVm vm1) cA' cI' n.toNatClampNeg k.toNatClampNeg n.toNatClampNeg
  obtain ⟨r1, r2⟩ := X.roomAbove hcells hslots
  refine ⟨cA', cI', mx_t (T.setVm vm1) cA' cI' n.toNatClampNeg k.toNatClampNeg n.toNatClampNeg, ⟨hfA, hfI⟩, XU, ⟨a, o, q, r⟩, fun target go => ?_⟩
  have hL := Launch.admits_arrayLengthLimit X.admits
  have hM := Launch.admits_maxHeapBytes X.admits
  have e1 : componentBytes (.array .int) = 4 := rfl
  have e2 : componentBytes .int = 4 := rfl
  jvm_step X.here [hexec, hdg]
  simp only [multianewarray.sem, wp_bind', W.resolveClassAt_links (State.method?_setTop (F0 m pc ls (.int k :: .int n :: rest)) X.here.top) hg]
  refine (W.popN 2).mpr ?_
  rw [if_neg (by decide)]
  refine ⟨_, State.topJava?_setTop' (s := T.setVm vm1) _ X1.here.top, [.int n, .int k], rest, rfl, rfl, ?_⟩
  simp only [List.mapM_cons, List.mapM_nil, wp_bind', wp_pure']
  refine mx_rows (kA := kA1) (kI := kI1) (cc := cc) hkA1 (by rw [heA]; exact hkindA) hkI1 (by rw [heI]; exact hkindI) hn hk (by omega) (by rw [e1, hM]; omega) (by omega) (by rw [e2, hM]; omega) (by show T.heap.size + 1 + _ ≤ _; omega) (by show T.slotsUsed + _ + _ ≤ _; omega) (fun d' acts' => ?_)
  have eS : ((T.setTop (F0 m pc ls (.int k :: .int n :: rest))).setVm vm1).setTop (F0 m pc ls rest) = (T.setVm vm1).setTop (F0 m pc ls rest) := State.setTop_setTop (T.setVm vm1) _ _
  have eT := mx_t_top (T.setVm vm1) (F0 m pc ls rest) cA' cI' n.toNatClampNeg k.toNatClampNeg n.toNatClampNeg
  rw [eS, eT]
  simp only [wp_bind', W.mark, W.pushRef, State.topJava?_setTop' _ XU.here.top, Option.some.injEq, exists_eq_left', State.setTop_setTop]
  intro acts2
  simp only [afterInstr_ok]
  exact go
end MX2
end

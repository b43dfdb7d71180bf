/-! Constructors: the kit's rows, put together for 'new row', 'new object', entry and end. -/
def niWs : List Jvm.Cond := [.methodLinkNest RX6 11 ⟨RX2, "<init>", "()V"⟩ RX6, .methodLinkNest RX6 18 ⟨RX5, "<init>", "()V"⟩ RX6, .methodLinkNest RX6 28 ⟨RX4, "<init>", "()V"⟩ RX6, .methodLinkNest RX6 38 ⟨RX1, "<init>", "()V"⟩ RX6, .methodLinkNest RX1 11 ⟨RX5, "<init>", "()V"⟩ RX6, .methodLinkNest RX6 45 ⟨RX3, "<init>", "()V"⟩ RX6, .methodLinkNest RX3 11 ⟨RX5, "<init>", "()V"⟩ RX6, .methodLinkNest RX6 52 ⟨RX0, "<init>", "()V"⟩ RX6, .methodLinkNest RX0 11 ⟨RX5, "<init>", "()V"⟩ RX6]
theorem ni_shape : ∀ w ∈ niWs, ∃ a i x h, w = Jvm.Cond.methodLinkNest a i x h := by
  intro w hw
  simp only [niWs, List.mem_cons, List.not_mem_nil, or_false] at hw
  rcases hw with rfl | rfl | rfl | rfl | rfl | rfl | rfl | rfl | rfl <;> exact ⟨_, _, _, _, rfl⟩
/-- arrays of rows of ints can be made -/
def ni_AO (U : State) : Prop := (Cond.arrayOver (.array .int)).before #[] U = true
theorem ni_AO.use {args : Array Value} {U : State} (h : ni_AO U) : (Cond.arrayOver (.array .int)).before args U = true := h
theorem ni_AO.of {args : Array Value} {U : State} (h : (Cond.arrayOver (.array .int)).before args U = true) : ni_AO U := h
theorem ni_AO.moved {u U : State} (hvm : u.vm.Alike U.vm) (h : ni_AO u) : ni_AO U := mx_over_moved hvm h
def ni_N (U : State) : Prop := (∀ w ∈ niWs, va_Nw w U) ∧ ni_AO U
theorem ni_warm {s U : State} (hW : s.WarmedH U.vm) (h : ni_N s) : ni_N U := ⟨fun w hw => by
  have h1 := h.1 w hw
  obtain ⟨a, i, x, h', rfl⟩ := ni_shape w hw
  exact va_Nw.warmM hW h1, h.2.moved hW.alike⟩
theorem ni_same {u U : State} (hv : U.vm = u.vm) (h : ni_N u) : ni_N U := ⟨fun w hw => by
  have h1 := h.1 w hw
  obtain ⟨a, i, x, h', rfl⟩ := ni_shape w hw
  exact va_Nw.same rfl hv.symm h1, h.2.moved (by rw [hv]; exact Vm.Alike.refl _)⟩
theorem ni_cA {D : va_G} {cl : List vw_C} {cI cO cA : ClassId} {U : State} (h : va_K D cl (wtys cI cO ++ [(cA, .int)]) U) : cA = cI := by
  have h1 := (h.2 0 (cI, .int) rfl).2
  have h2 := (h.2 2 (cA, .int) rfl).2
  exact Option.some.inj (h2.symm.trans h1)
theorem ni_cO {D : va_G} {cl : List vw_C} {cI cO cA : ClassId} {U : State} (h : va_K D cl (wtys cI cO ++ [(cA, .array .int)]) U) : cA = cO := by
  have h1 := (h.2 1 (cO, .array .int) rfl).2
  have h2 := (h.2 2 (cA, .array .int) rfl).2
  exact Option.some.inj (h2.symm.trans h1)
theorem ni_nd : ∀ l : List Nat, l.Nodup → va_nd l = true
  | [], _ => rfl
  | a :: l, h => by
    obtain ⟨h1, h2⟩ := List.nodup_cons.mp h
    simp only [va_nd, Bool.and_eq_true, decide_eq_true_eq]
    exact ⟨h1, ni_nd l h2⟩
theorem ni_all {X : va_W} {x : Nat × va_E} : (List.range X.length).map (fun i => (X ++ [x])[i]?) = X.map some := by
  apply List.ext_getElem?
  intro i
  by_cases h : i < X.length
  · rw [List.getElem?_map, List.getElem?_range h, List.getElem?_map, Option.map_some, List.getElem?_append_left h, List.getElem?_eq_getElem h]
    rfl
  · rw [List.getElem?_eq_none (by rw [List.length_map, List.length_range]; omega), List.getElem?_eq_none (by rw [List.length_map]; omega)]
theorem ni_last {X : va_W} {x : Nat × va_E} : (X ++ [x])[X.length]? = some x := by
  rw [List.getElem?_append_right (Nat.le_refl _), Nat.sub_self]
  rfl
theorem ni_join {A0 : Nat → Prop} {D : va_G} {cl : List vw_C} {X w1 : va_W} {x : Nat × va_E} {H H1 : Heap} (hP : va_P D cl (X ++ [x]) H) (hD : va_D A0 (X ++ [x])) (hk : ∀ q : Nat, q < H.size → ¬ va_A [x] H.size q → H1[q]? = H[q]?) (hF : ∀ q, va_A [x] H.size q → A0 q) (hP1 : va_P D cl w1 H1) (hD1 : va_D (va_A [x] H.size) w1) : va_P D cl (X ++ w1) H1 ∧ va_D A0 (X ++ w1) :=
  va_join (wc := [x]) (wr := X) hP hD [X.length] (List.range X.length) (by rw [List.map_cons, List.map_nil, ni_last]; rfl) ni_all (ni_nd _ List.nodup_range) (fun i hi h => by have h1 := List.mem_range.mp hi; have h2 := List.mem_singleton.mp h; omega) hk hF hP1 hD1
theorem ni_dI : parseFieldDescriptor "[I" = some (.array .int) := by decide +kernel
abbrev zA (cI : ClassId) (n : Nat) : va_E := .inl (cI, n, .inl (fun _ => 0))
abbrev rw_ (cO : ClassId) (r : Nat → Nat) : va_E := .inl (cO, 6, .inr (.inr (.inr (.inr (fun i => if i < 6 then some (r i) else none)))))
/-- in a constructor's body, behind Object's -/
def ni_C (p : Program) (c : Code) (cc : ByteArray) (s : State) (args : Array Value) (Ts : List Cond) (m : MethodId) (meth : Method) (C : String) (ci : Nat) (T : u_T) (N : Nat) (ty0 : Nat → FieldType) (ls : Array Slot) (h0 : Nat) (A : Nat → Prop) (H0 : Heap) (D : va_G) (cI cO : ClassId) : Prop :=
  p.tables.exec = Jvm.exec ∧ c.code = cc ∧ (∀ w ∈ Ts, w.before args s = true) ∧ s.vm.findClass C = some m.cls ∧ meth.name = "<init>" ∧ c.maxLocals = 1 ∧ lv_has ls 1 [(0, .ref h0)] ∧ (∀ q : Nat, H0.size ≤ q → A q) ∧ va_K D wcl (wtys cI cO) s ∧ ((∀ w ∈ u_ws C T N, w ∈ Ts) ∧ (∀ k, k < N → parseFieldDescriptor (T k).2.2.1 = some (ty0 k)) ∧ (∀ a, a < N → ∀ b, b < N → a ≠ b → (T a).2.1 ≠ (T b).2.1) ∧ wcl[ci]? = some (C, T, N)) ∧ ni_N s ∧ meth.sig.returnType = none ∧ meth.locks = false
def ni_pre (D : va_G) (cI cO : ClassId) (cj : Nat) (fs : List Value) (b sz : Nat) : Array Value → State → Prop := va_Pc [.ref b] (fun U => U.heap.size = sz ∧ va_P D wcl [(b, .inr (cj, fs))] U.heap ∧ va_K D wcl (wtys cI cO) U ∧ va_D (fun _ => True) [(b, .inr (cj, fs))] ∧ ni_N U)
def ni_post (D : va_G) (cj : Nat) (fs : List Value) (made : Nat → va_W → Prop) (b sz : Nat) : Array Value → State → Outcome → State → Prop := va_Qv (fun w1 : va_W => made b w1) (fun w1 t => va_P D wcl w1 t.heap ∧ va_D (va_A [(b, .inr (cj, fs))] sz) w1) (va_A [(b, .inr (cj, fs))] sz)
/-- the contract of a constructor without arguments: of a new object's cell it makes the cells that 'made' says -/
def ni_Met (l : Launch) (D : va_G) (cI cO : ClassId) (y : MethodName) (ws : List Cond) (rm : Room) (cj : Nat) (fs : List Value) (made : Nat → va_W → Prop) (mc ms : Nat) : Prop := ∀ b sz : Nat, Met l y ws rm (ni_pre D cI cO cj fs b sz) (ni_post D cj fs made b sz) mc ms (va_A [(b, .inr (cj, fs))] sz)
section NI
variable {p : Program} {l : Launch} {e : Env} {R : Room} {s : State} {m : MethodId} {args : Array Value} {below : List Frame} {meth : Method} {c : Code} {H : Heap} {locs : List Loc} {cells slots : Nat} {Q : State → Prop}
variable {cc : ByteArray} {pc : Nat} {ls : Array Slot} {D : va_G} {A : Nat → Prop} {H0 : Heap} {h0 ci : Nat} {fs : List Value} {wr : va_W} {cI cO : ClassId} {C : String} {T : u_T} {N : Nat} {Ts : List Cond} {ty0 : Nat → FieldType}
theorem ni_arr (B : ni_C p c cc s args Ts m meth C ci T N ty0 ls h0 A H0 D cI cO) (ha : Cond.arrayClass .int ∈ Ts) (hP : va_P D wcl ((h0, .inr (ci, fs)) :: wr) H) (hD : va_D A ((h0, .inr (ci, fs)) :: wr)) (hS : va_S A H0 H locs) (k : Nat) (hk : k < N) {nm : String} (hT : T k = (C, nm, "[I", true)) {ix : Nat} (hlink : Cond.fieldLink C ix C nm "[I" ∈ Ts) (hlen : k < fs.length) {n : Int32} {N' : Nat} (hn : ¬ n < 0) (hN : n.toNatClampNeg = N') (hbytes : N' * 4 ≤ 536870912) (hcells : cells + 1 ≤ R.cells) (hslots : slots + N' ≤ R.slots) {pc1 : Nat} (d0 : decode cc pc = .ok (.aload_n 0, 1))
    (push : ∀ rest : List Value, W p l e R s m args below meth c H locs cells slots Q (F0 m pc1 ls (.int n :: rest)) → W p l e R s m args below meth c H locs cells slots Q (F0 m (pc + 1) ls rest)) (d1 : decode cc pc1 = .ok (.newarray .int, 2)) (d2 : decode cc (pc1 + 2) = .ok (.putfield ix, 3))
    (kk : ∀ (q : Nat) (H1 : Heap) (locs1 : List Loc), va_P D wcl ((h0, .inr (ci, fs.set k (.ref q))) :: (wr ++ [(q, .inl (cI, N', .inl (fun _ => 0)))])) H1 → va_D A ((h0, .inr (ci, fs.set k (.ref q))) :: (wr ++ [(q, .inl (cI, N', .inl (fun _ => 0)))])) → va_S A H0 H1 locs1 → W p l e R s m args below meth c H1 locs1 (cells + 1) (slots + N') Q (F0 m (pc1 + 5) ls [])) : W p l e R s m args below meth c H locs cells slots Q (F0 m pc ls []) := by
  obtain ⟨hx, hb, hts, hown, hin, hml, hl, hA, hK, ⟨i1, i2, i3, i4⟩, -, -, -⟩ := B
  refine lv_aload_n hx hb d0 rfl (lv_at hl 0 rfl) ?_
  refine push _ ?_
  refine va_newa (atype := .int) (ty := .int) (a0 := (N', .inl (fun _ => 0))) hx hb (hts _ ha) rfl hK hP hD hS hA (fun _ => rfl) hn hN hbytes hcells hslots d1 (fun q cA H1 hK1 hP1 hD1 hS1 => ?_)
  have e := ni_cA hK1
  subst e
  refine va_putF (D := D) (ci := ci) (v := .ref q) (ty := .array .int) (C := C) (T := T) (N := N) (ref := C) (index := ix) hx hb hts i1 ty0 i2 i3 hown hK hP1 hD1 hS1 0 rfl i4 k hk (by rw [hT]; exact hts _ hlink) (fun x h9 => by rw [hT] at h9 ⊢; exact h9) (by rw [hT]) hin (by rw [hT]) (by rw [hT]; exact ni_dI) rfl rfl hlen d2 (fun H2 locs2 hP2 hD2 hS2 => ?_)
  exact kk q H2 locs2 hP2 hD2 hS2
theorem ni_new (B : ni_C p c cc s args Ts m meth C ci T N ty0 ls h0 A H0 D cI cO) (hP : va_P D wcl ((h0, .inr (ci, fs)) :: wr) H) (hD : va_D A ((h0, .inr (ci, fs)) :: wr)) (hS : va_S A H0 H locs) (k : Nat) (hk : k < N) {nm dsc C2 : String} (hT : T k = (C, nm, dsc, true)) (hdsc : parseFieldDescriptor dsc = some (.object C2)) {ix ix1 ix2 : Nat} (hlink : Cond.fieldLink C ix C nm dsc ∈ Ts) (hlen : k < fs.length)
    {cj : Nat} {T2 : u_T} {N2 : Nat} {ty2 : Nat → FieldType} {fs2 : List Value} (hcl : Cond.classLink C ix1 C2 ∈ Ts) (hinst : Cond.instantiable C2 N2 ∈ Ts) (hini : Cond.initialized C2 ∈ Ts) (hws : ∀ w ∈ u_ws C2 T2 N2, w ∈ Ts) (hty2 : ∀ k, k < N2 → parseFieldDescriptor (T2 k).2.2.1 = some (ty2 k)) (hcj : wcl[cj]? = some (C2, T2, N2)) (hfs2 : ∀ j, j < N2 → defaultValue (ty2 j) = vp_V fs2 j)
    {y : MethodName} {bytes : ByteArray} {ws ws' : List Cond} {rm : Room} {made : Nat → va_W → Prop} {mc ms : Nat} {host : String} (M : ni_Met l D cI cO y ws rm cj fs2 made mc ms) (hG : GoodIn Ts ws) (hwy : ws = Cond.code y bytes 1 none :: ws') (hmc : rm.cells = mc) (hms : rm.slots = ms) (hnest : Cond.methodLinkNest C ix2 y host ∈ niWs) (hyc : y.cls = C2) (hyn : y.name = "<init>") (hyi : Cond.instanceMethod y ∈ Ts)
    (hd : y.cls ≠ "java/lang/invoke/MethodHandle" ∧ y.cls ≠ "java/lang/invoke/VarHandle" ∧ (parseMethodDescriptor y.desc).map (fun d => d.parameters.length) = some 0) (hR : rm.frames + 1 ≤ R.frames ∧ 8 + (1 + 11) + rm.locals ≤ R.locals) (hcells : cells + 1 + mc ≤ R.cells) (hslots : slots + N2 + ms ≤ R.slots)
    (d0 : decode cc pc = .ok (.aload_n 0, 1)) (d1 : decode cc (pc + 1) = .ok (.new ix1, 3)) (d2 : decode cc (pc + 4) = .ok (.dup, 1)) (d3 : decode cc (pc + 5) = .ok (.invokespecial ix2, 3)) (d4 : decode cc (pc + 8) = .ok (.putfield ix, 3))
    (kk : ∀ (q : Nat) (w1 : va_W) (H1 : Heap) (locs1 : List Loc), made q w1 → va_P D wcl ((h0, .inr (ci, fs.set k (.ref q))) :: (wr ++ w1)) H1 → va_D A ((h0, .inr (ci, fs.set k (.ref q))) :: (wr ++ w1)) → va_S A H0 H1 locs1 → W p l e R s m args below meth c H1 locs1 (cells + 1 + mc) (slots + N2 + ms) Q (F0 m (pc + 11) ls [])) : W p l e R s m args below meth c H locs cells slots Q (F0 m pc ls []) := by
  obtain ⟨hx, hb, hts, hown, hin, hml, hl, hA, hK, ⟨i1, i2, i3, i4⟩, hni, -, -⟩ := B
  refine lv_aload_n hx hb d0 rfl (lv_at hl 0 rfl) ?_
  refine va_new (ci := cj) (fs := fs2) (C := C2) (T := T2) (N := N2) hx hb hts hws ty2 hty2 hown (hts _ hcl) (hts _ hinst) (hts _ hini) hK hP hD hS hA hcj hfs2 (by omega) (by omega) d1 (fun q H hP hD hS => ?_)
  refine lv_dup hx hb d2 rfl ?_
  have hPc := hP.sub (ws' := [(q, .inr (cj, fs2))]) [((h0, .inr (ci, fs)) :: wr).length] (by rw [List.filterMap_cons, ni_last]; rfl)
  have hDc := hD.sub (ws' := [(q, .inr (cj, fs2))]) [((h0, .inr (ci, fs)) :: wr).length] (by simp [va_nd]) (by rw [List.map_cons, ni_last]; rfl)
  have hFc := va_free (wc := [(q, .inr (cj, fs2))]) hD hS hA [((h0, .inr (ci, fs)) :: wr).length] (by rw [List.map_cons, ni_last]; rfl)
  subst hyc
  refine va_callv (va_runIN (As := []) (rest := [.ref q, .ref h0]) ⟨hx, hb, hml, hown, hts⟩ (M q H.size) ⟨va_cnB 0 hts hG hwy hmc hms (hni.1 _ hnest) (hts _ hini) hd hR, hyn, hts _ hyi⟩ ⟨fun a U g mk q => by obtain ⟨q0, q1, qP, qK, qD, qN⟩ := q; exact ⟨q0, q1, qP, va_K.moved (u := U) (U := U.calling g mk a) (Vm.Alike.refl U.vm) qK, qD, ni_same (u := U) rfl qN⟩, fun U hU hW => ⟨rfl, by rw [hU], by rw [hU]; exact hPc, va_K.moved hW.alike hK, hDc.weaken (fun _ _ _ _ => trivial), ni_warm hW hni⟩⟩ rfl rfl hl.1 rfl (lv_room (Nat.le_of_ble_eq_true rfl)) d3 ⟨hcells, hslots⟩) hS (fun q _ h => hFc q h) hFc (fun u t H1 locs ht hvm h5 hB hz1 hk1 hS => ?_)
  obtain ⟨hP1, hD1⟩ := hB
  rw [ht] at hP1
  obtain ⟨hP2, hD2⟩ := ni_join hP hD hk1 hFc hP1 hD1
  refine va_putF (D := D) (ci := ci) (v := .ref q) (ty := .object y.cls) (C := C) (T := T) (N := N) (ref := C) (index := ix) hx hb hts i1 ty0 i2 i3 hown hK hP2 hD2 hS 0 rfl i4 k hk (by rw [hT]; exact hts _ hlink) (fun x h9 => by rw [hT] at h9 ⊢; exact h9) (by rw [hT]) hin (by rw [hT]) (by rw [hT]; exact hdsc) rfl rfl hlen d4 (fun H2 locs2 hP3 hD3 hS3 => ?_)
  exact kk q u H2 locs2 h5 hP3 hD3 hS3
/-- the entry: Object's own, called -/
theorem ni_begin {y : MethodName} {ws ws' : List Cond} {rm : Room} {made : Nat → va_W → Prop} {mc ms ix : Nat} (hyp : plainName y.cls = true) (hyn : y.name = "<init>") (hw : ws = Cond.code y cc 1 none :: ws') (hobj : Cond.methodLink y.cls ix objectInit ∈ ws) (hobi : Cond.instanceMethod objectInit ∈ ws) (hobc : Cond.code objectInit ⟨#[0xb1]⟩ 1 none ∈ ws) (i1 : ∀ w ∈ u_ws y.cls T N, w ∈ ws) (i2 : ∀ k, k < N → parseFieldDescriptor (T k).2.2.1 = some (ty0 k)) (i3 : ∀ a, a < N → ∀ b, b < N → a ≠ b → (T a).2.1 ≠ (T b).2.1) (i4 : wcl[ci]? = some (y.cls, T, N)) (hR : 1 ≤ rm.frames ∧ 12 ≤ rm.locals)
    (d0 : decode cc 0 = .ok (.aload_n 0, 1)) (d1 : decode cc 1 = .ok (.invokespecial ix, 3))
    (body : ∀ (p : Program) (e : Env) (s : State) (m : MethodId) (args : Array Value) (below : List Frame) (meth : Method) (c : Code) (ls : Array Slot) (h0 : Nat) (A : Nat → Prop), ni_C p c cc s args ws m meth y.cls ci T N ty0 ls h0 A s.heap D cI cO → va_P D wcl [(h0, .inr (ci, fs))] s.heap → va_D A [(h0, .inr (ci, fs))] → va_S A s.heap s.heap [] →
      (∀ (w1 : va_W) (H : Heap) (locs : List Loc) (pc : Nat), made h0 w1 → va_P D wcl w1 H → va_D A w1 → va_S A s.heap H locs → decode cc pc = .ok (.return_, 1) → W p l e rm s m args below meth c H locs mc ms (MQ below (ni_post D ci fs made h0 s.heap.size) args s mc ms (va_A [(h0, .inr (ci, fs))] s.heap.size)) (F0 m pc ls [])) →
      W p l e rm s m args below meth c s.heap [] 0 0 (MQ below (ni_post D ci fs made h0 s.heap.size) args s mc ms (va_A [(h0, .inr (ci, fs))] s.heap.size)) (F0 m 4 ls [])) : ni_Met l D cI cO y ws rm ci fs made mc ms := by
  intro h0 sz
  refine Met.ofW (cc := cc) (maxL := 1) (ret := none) hyp hw ?_
  intro p e s m args below meth c s₁ B hml hv
  obtain ⟨rfl, hsz, hP, hK, hD0, hni⟩ := hv
  have hx := B.exec
  have hb := B.bytes
  have hr := B.returns
  have hts := atoms_spec (ws := ws) B.pre
  have hown : s.vm.findClass y.cls = some m.cls := findClass_of_methodNamed B.named
  have hlocks := B.notSynchronized
  have hin : meth.name = "<init>" := (name_of_methodNamed B.named B.method).1.trans hyn
  subst hsz
  have hD := hD0.self (sz := s.heap.size)
  have hA : ∀ q : Nat, s.heap.size ≤ q → va_A [(h0, .inr (ci, fs))] s.heap.size q := fun q h => Or.inr h
  have hS : va_S (va_A [(h0, .inr (ci, fs))] s.heap.size) s.heap s.heap [] := va_S.rf
  have hl := lv_entry ([.ref h0]) (n := 1) (Nat.le_of_ble_eq_true rfl)
  rw [lg_entry_eq]
  generalize (lg_sl ([.ref h0]) ++ List.replicate (1 - (lg_sl ([.ref h0])).length) Slot.unset).toArray = ls at hl ⊢
  have hl : lv_has ls 1 [(0, .ref h0)] := hl
  refine lv_aload_n hx hb d0 rfl (lv_at hl 0 rfl) ?_
  refine W.objInit hx hb hown (hts _ hobj) (hts _ hobi) (hts _ hobc) rfl (by rw [hml]; exact hl.1) rfl d1 hR.1 hR.2 ?_
  exact body p e s m _ below meth c ls h0 _ ⟨hx, hb, hts, hown, hin, hml, hl, hA, hK, ⟨i1, i2, i3, i4⟩, hni, hr, hlocks⟩ hP hD hS (fun w1 H locs pc hm hP hD hS dr => W.vret hx hb hr (fun t ht hW => ⟨⟨w1, rfl, hm, by rw [ht]; exact hP, hD⟩, hS.F ht⟩) hS.2.2 dr)
end NI

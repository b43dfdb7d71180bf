/-! 'new int[n][k]' over the cells of the world: mx_step (49.mnx) in the walk's shape. -/
/-- cells that stand one behind another from the heap's end on -/
theorem ni_rows {D : va_G} {cl : List vw_C} {A : Nat → Prop} {X : va_W} {H F : Heap} {n : Nat} {g : Nat → va_E} (hP : va_P D cl X H) (hD : va_D A X) (hA : ∀ q, H.size ≤ q → A q) (hold : ∀ x : Nat, x < H.size → F[x]? = H[x]?) (hnew : ∀ i, i < n → va_at D cl (H.size + i, g i) F) : va_P D cl (X ++ (List.range n).map (fun i => (H.size + i, g i))) F ∧ va_D A (X ++ (List.range n).map (fun i => (H.size + i, g i))) := by
  have hlt : ∀ (k : Nat) (x : Nat × va_E), X[k]? = some x → x.1 < H.size := fun k x hx => (hP k x hx).lt
  have hr : ∀ (k : Nat) (x : Nat × va_E), ((List.range n).map (fun i => ((H.size + i, g i) : Nat × va_E)))[k]? = some x → k < n ∧ x = (H.size + k, g k) := fun k x hx => by
    rw [List.getElem?_map] at hx
    by_cases h9 : k < n
    · rw [List.getElem?_range h9] at hx
      cases hx
      exact ⟨h9, rfl⟩
    · rw [List.getElem?_eq_none (by rw [List.length_range]; omega)] at hx
      cases hx
  refine ⟨(hP.kept (fun k x hx => hold _ (hlt k x hx))).app (fun k x hx => ?_), fun i j x y hi hj hxy => ?_, fun k x hx => ?_⟩
  · obtain ⟨h1, rfl⟩ := hr k x hx
    exact hnew k h1
  · by_cases h1 : i < X.length <;> by_cases h2 : j < X.length
    · rw [List.getElem?_append_left h1] at hi
      rw [List.getElem?_append_left h2] at hj
      exact hD.1 i j x y hi hj hxy
    · rw [List.getElem?_append_left h1] at hi
      rw [List.getElem?_append_right (by omega)] at hj
      have a1 := hlt _ _ hi
      have a2 := (hr _ _ hj).2
      rw [a2] at hxy
      simp only at hxy
      omega
    · rw [List.getElem?_append_right (by omega)] at hi
      rw [List.getElem?_append_left h2] at hj
      have a1 := hlt _ _ hj
      have a2 := (hr _ _ hi).2
      rw [a2] at hxy
      simp only at hxy
      omega
    · rw [List.getElem?_append_right (by omega)] at hi hj
      have a1 := (hr _ _ hi).2
      have a2 := (hr _ _ hj).2
      rw [a1, a2] at hxy
      simp only at hxy
      omega
  · by_cases h1 : k < X.length
    · rw [List.getElem?_append_left h1] at hx
      exact hD.2 k x hx
    · rw [List.getElem?_append_right (by omega)] at hx
      rw [(hr _ _ hx).2]
      exact hA _ (by simp only; omega)
section MNA
variable {p : Program} {l : Launch} {e : Env} {R : Room} {s : State} {m : MethodId} {args : Array Value} {below : List Frame} {meth : Method} {c : Code} {H : Heap} {locs : List Loc} {cells slots : Nat} {Q : State → Prop}
variable {cc : ByteArray} {pc : Nat} {ls : Array Slot} {D : va_G} {A : Nat → Prop} {H0 : Heap} {h0 ci : Nat} {fs : List Value} {wr : va_W} {cI cO : ClassId} {C : String} {T : u_T} {N : Nat} {Ts : List Cond} {ty0 : Nat → FieldType}
theorem ni_mna0 {X : va_W} {rest : List Value} {own : String} {index : Nat} (hexec : p.tables.exec = Jvm.exec) (hb : c.code = cc) (hown : s.vm.findClass own = some m.cls) (hclink : (Cond.classLink own index ("[" ++ (FieldType.array .int).toString)).before args s = true) (hover : (Cond.arrayOver (.array .int)).before args s = true) (harr : (Cond.arrayClass .int).before args s = true)
    (hK : va_K D wcl (wtys cI cO) s) (hP : va_P D wcl X H) (hD : va_D A X) (hS : va_S A H0 H locs) (hA : ∀ q, H0.size ≤ q → A q) {n k : Int32} {N' K' : Nat} (hn : ¬ n < 0) (hk : ¬ k < 0) (hN : n.toNatClampNeg = N') (hM : k.toNatClampNeg = K')
    (hb1 : N' * 4 ≤ 536870912) (hb2 : K' * 4 ≤ 536870912) (hcells : cells + (1 + N') ≤ R.cells) (hslots : slots + (N' + N' * K') ≤ R.slots) (hdg : decode cc pc = .ok (.multianewarray index 2, 4))
    (kk : ∀ (q : Nat) (r : Nat → Nat) (H1 : Heap), va_P D wcl (X ++ ((q, .inl (cO, N', .inr (.inr (.inr (.inr (fun i => if i < N' then some (r i) else none)))))) :: (List.range N').map (fun i => (r i, zA cI K')))) H1 → va_D A (X ++ ((q, .inl (cO, N', .inr (.inr (.inr (.inr (fun i => if i < N' then some (r i) else none)))))) :: (List.range N').map (fun i => (r i, zA cI K')))) → va_S A H0 H1 locs →
      W p l e R s m args below meth c H1 locs (cells + 1 + N') (slots + N' + N' * K') Q (F0 m (pc + 4) ls (.ref q :: rest))) : W p l e R s m args below meth c H locs cells slots Q (F0 m pc ls (.int k :: .int n :: rest)) := by
  subst hN
  subst hM
  intro T hT Xs
  subst hT
  obtain ⟨cA, comp, U, ⟨fA, fC⟩, X', ⟨f1, hold, f2, hrow⟩, step⟩ := mx_step Xs hexec hown hclink hover harr (ls := ls) (rest := rest) (by rw [hb]; exact hdg) hn hk hb1 hb2 hcells hslots
  have e1 : comp = cI := Option.some.inj (fC.symm.trans (hK.2 0 (cI, .int) rfl).2)
  have e2 : cA = cO := Option.some.inj (fA.symm.trans (hK.2 1 (cO, .array .int) rfl).2)
  subst e1
  subst e2
  obtain ⟨hP2, hD2⟩ := ni_rows (n := n.toNatClampNeg + 1) (g := fun i => if i = 0 then .inl (cA, n.toNatClampNeg, .inr (.inr (.inr (.inr (fun i => if i < n.toNatClampNeg then some (T.heap.size + 1 + i) else none))))) else zA comp k.toNatClampNeg) (F := U.heap) hP hD (fun q hq => hA q (Nat.le_trans hS.1 hq)) hold (fun i hi => by
    by_cases h0 : i = 0
    · subst h0
      rw [if_pos rfl]
      exact f2
    · rw [if_neg h0]
      have h := hrow (i - 1) (by omega)
      rw [show T.heap.size + 1 + (i - 1) = T.heap.size + i by omega] at h
      exact h)
  have eL : (List.range (n.toNatClampNeg + 1)).map (fun i => ((T.heap.size + i, if i = 0 then .inl (cA, n.toNatClampNeg, .inr (.inr (.inr (.inr (fun i => if i < n.toNatClampNeg then some (T.heap.size + 1 + i) else none))))) else zA comp k.toNatClampNeg) : Nat × va_E)) = (T.heap.size, .inl (cA, n.toNatClampNeg, .inr (.inr (.inr (.inr (fun i => if i < n.toNatClampNeg then some (T.heap.size + 1 + i) else none)))))) :: (List.range n.toNatClampNeg).map (fun i => (T.heap.size + 1 + i, zA comp k.toNatClampNeg)) := by
    rw [List.range_succ_eq_map, List.map_cons, List.map_map]
    refine congrArg _ (List.map_congr_left fun i _ => ?_)
    simp only [Function.comp_apply]
    rw [if_neg (by omega), show T.heap.size + (i + 1) = T.heap.size + 1 + i by omega]
  rw [eL] at hP2 hD2
  obtain ⟨t, a1, b1⟩ := kk T.heap.size (fun i => T.heap.size + 1 + i) U.heap hP2 hD2 ⟨by rw [f1]; have := hS.1; omega, fun x h1 h2 => (hold x (Nat.lt_of_lt_of_le h1 hS.1)).trans (hS.2.1 x h1 h2), hS.2.2⟩ U rfl X'
  exact ⟨t, step t a1, b1⟩
theorem ni_dII : parseFieldDescriptor "[[I" = some (.array (.array .int)) := by decide +kernel
theorem ni_mna (B : ni_C p c cc s args Ts m meth C ci T N ty0 ls h0 A H0 D cI cO) (ha : Cond.arrayClass .int ∈ Ts) {ix ix1 : Nat} (hcl : Cond.classLink C ix1 "[[I" ∈ Ts) (hP : va_P D wcl ((h0, .inr (ci, fs)) :: wr) H) (hD : va_D A ((h0, .inr (ci, fs)) :: wr)) (hS : va_S A H0 H locs) (k : Nat) (hk : k < N) {nm : String} (hT : T k = (C, nm, "[[I", true)) (hlink : Cond.fieldLink C ix C nm "[[I" ∈ Ts) (hlen : k < fs.length) {v : Int32} {K' : Nat} (hn : ¬ v < 0) (hN : v.toNatClampNeg = K') (hbytes : K' * 4 ≤ 536870912) (hcells : cells + (1 + 6) ≤ R.cells) (hslots : slots + (6 + 6 * K') ≤ R.slots) {pc2 : Nat} (d0 : decode cc pc = .ok (.aload_n 0, 1)) (d1 : decode cc (pc + 1) = .ok (.bipush 6, 2))
    (push : ∀ rest : List Value, W p l e R s m args below meth c H locs cells slots Q (F0 m pc2 ls (.int v :: rest)) → W p l e R s m args below meth c H locs cells slots Q (F0 m (pc + 3) ls rest)) (d2 : decode cc pc2 = .ok (.multianewarray ix1 2, 4)) (d3 : decode cc (pc2 + 4) = .ok (.putfield ix, 3))
    (kk : ∀ (q : Nat) (r : Nat → Nat) (H1 : Heap) (locs1 : List Loc), va_P D wcl ((h0, .inr (ci, fs.set k (.ref q))) :: (wr ++ ((q, rw_ cO r) :: (List.range 6).map (fun i => (r i, zA cI K'))))) H1 → va_D A ((h0, .inr (ci, fs.set k (.ref q))) :: (wr ++ ((q, rw_ cO r) :: (List.range 6).map (fun i => (r i, zA cI K'))))) → va_S A H0 H1 locs1 → W p l e R s m args below meth c H1 locs1 (cells + 1 + 6) (slots + 6 + 6 * K') Q (F0 m (pc2 + 7) ls [])) : W p l e R s m args below meth c H locs cells slots Q (F0 m pc ls []) := by
  obtain ⟨hx, hb, hts, hown, hin, hml, hl, hA, hK, ⟨i1, i2, i3, i4⟩, hni, -, -⟩ := B
  refine lv_aload_n hx hb d0 rfl (lv_at hl 0 rfl) ?_
  refine lv_bipush (v := 6) hx hb d1 rfl ?_
  refine push _ ?_
  refine ni_mna0 (N' := 6) (index := ix1) hx hb hown (hts _ hcl) hni.2.use (hts _ ha) hK hP hD hS hA (by decide) hn rfl hN (by decide) hbytes hcells hslots d2 (fun q r H1 hP1 hD1 hS1 => ?_)
  refine va_putF (D := D) (ci := ci) (v := .ref q) (ty := .array (.array .int)) (C := C) (T := T) (N := N) (ref := C) (index := ix) hx hb hts i1 ty0 i2 i3 hown hK hP1 hD1 hS1 0 rfl i4 k hk (by rw [hT]; exact hts _ hlink) (fun x h9 => by rw [hT] at h9 ⊢; exact h9) (by rw [hT]) hin (by rw [hT]) (by rw [hT]; exact ni_dII) rfl rfl hlen d3 (fun H2 locs2 hP2 hD2 hS2 => ?_)
  exact kk q r H2 locs2 hP2 hD2 hS2
end MNA

/-! A run of the reader is a run of the machine: fields, statics, constants, arrays. -/
theorem i_X0 : ∀ w ∈ u_ws RX0 TX0 6, w ∈ TB := fun w hw => List.mem_filter.mpr ⟨(by decide +kernel : ∀ w ∈ u_ws RX0 TX0 6, w ∈ lw_tbl) w hw, (by decide +kernel : ∀ w ∈ u_ws RX0 TX0 6, goodWord w = true) w hw⟩
theorem i_X1 : ∀ w ∈ u_ws RX1 TX1 7, w ∈ TB := fun w hw => List.mem_filter.mpr ⟨(by decide +kernel : ∀ w ∈ u_ws RX1 TX1 7, w ∈ lw_tbl) w hw, (by decide +kernel : ∀ w ∈ u_ws RX1 TX1 7, goodWord w = true) w hw⟩
theorem i_X2 : ∀ w ∈ u_ws RX2 TX2 2, w ∈ TB := fun w hw => List.mem_filter.mpr ⟨(by decide +kernel : ∀ w ∈ u_ws RX2 TX2 2, w ∈ lw_tbl) w hw, (by decide +kernel : ∀ w ∈ u_ws RX2 TX2 2, goodWord w = true) w hw⟩
theorem i_X3 : ∀ w ∈ u_ws RX3 TX3 9, w ∈ TB := fun w hw => List.mem_filter.mpr ⟨(by decide +kernel : ∀ w ∈ u_ws RX3 TX3 9, w ∈ lw_tbl) w hw, (by decide +kernel : ∀ w ∈ u_ws RX3 TX3 9, goodWord w = true) w hw⟩
theorem i_X4 : ∀ w ∈ u_ws RX4 TX4 4, w ∈ TB := fun w hw => List.mem_filter.mpr ⟨(by decide +kernel : ∀ w ∈ u_ws RX4 TX4 4, w ∈ lw_tbl) w hw, (by decide +kernel : ∀ w ∈ u_ws RX4 TX4 4, goodWord w = true) w hw⟩
theorem i_X5 : ∀ w ∈ u_ws RX5 TX5 12, w ∈ TB := fun w hw => List.mem_filter.mpr ⟨(by decide +kernel : ∀ w ∈ u_ws RX5 TX5 12, w ∈ lw_tbl) w hw, (by decide +kernel : ∀ w ∈ u_ws RX5 TX5 12, goodWord w = true) w hw⟩
theorem i_X6 : ∀ w ∈ u_ws RX6 TX6 12, w ∈ TB := fun w hw => List.mem_filter.mpr ⟨(by decide +kernel : ∀ w ∈ u_ws RX6 TX6 12, w ∈ lw_tbl) w hw, (by decide +kernel : ∀ w ∈ u_ws RX6 TX6 12, goodWord w = true) w hw⟩
theorem i_X7 : ∀ w ∈ u_ws RX7 TX7 43, w ∈ TB := fun w hw => List.mem_filter.mpr ⟨(by decide +kernel : ∀ w ∈ u_ws RX7 TX7 43, w ∈ lw_tbl) w hw, (by decide +kernel : ∀ w ∈ u_ws RX7 TX7 43, goodWord w = true) w hw⟩
theorem wcl_ok {T : Nat} {C : String} {F : u_T} {N : Nat} (h : wcl[T]? = some (C, F, N)) : (∀ w ∈ u_ws C F N, w ∈ TB) ∧ (∃ ty : Nat → FieldType, ∀ k, k < N → parseFieldDescriptor (F k).2.2.1 = some (ty k)) ∧ (∀ a, a < N → ∀ b, b < N → a ≠ b → (F a).2.1 ≠ (F b).2.1) ∧ N = nF T ∧ T < 8 := by
  match T, h with
  | 0, h => cases h; exact ⟨i_X0, ⟨_, tyX0_ok⟩, nmX0, rfl, by decide⟩
  | 1, h => cases h; exact ⟨i_X1, ⟨_, tyX1_ok⟩, nmX1, rfl, by decide⟩
  | 2, h => cases h; exact ⟨i_X2, ⟨_, tyX2_ok⟩, nmX2, rfl, by decide⟩
  | 3, h => cases h; exact ⟨i_X3, ⟨_, tyX3_ok⟩, nmX3, rfl, by decide⟩
  | 4, h => cases h; exact ⟨i_X4, ⟨_, tyX4_ok⟩, nmX4, rfl, by decide⟩
  | 5, h => cases h; exact ⟨i_X5, ⟨_, tyX5_ok⟩, nmX5, rfl, by decide⟩
  | 6, h => cases h; exact ⟨i_X6, ⟨_, tyX6_ok⟩, nmX6, rfl, by decide⟩
  | 7, h => cases h; exact ⟨i_X7, ⟨_, tyX7_ok⟩, nmX7, rfl, by decide⟩
  | n + 8, h => simp at h
theorem fieldB_inv {own : String} {j T k z p : Nat} (h : fieldB own j T k z p = true) : ∃ (C : String) (F : u_T) (N : Nat), wcl[T]? = some (C, F, N) ∧ k < N ∧ (F k).1 = C ∧ ((Jvm.Cond.fieldLink own j C (F k).2.1 (F k).2.2.1) ∈ TB ∨ (Jvm.Cond.fieldLinkNest own j C (F k).2.1 (F k).2.2.1 RX6) ∈ nestWs) := by
  unfold fieldB at h
  cases hw : wcl[T]? with
  | none => rw [hw] at h; cases h
  | some x =>
    obtain ⟨C, F, N⟩ := x
    rw [hw] at h
    simp only [Bool.and_eq_true, decide_eq_true_eq] at h
    refine ⟨C, F, N, rfl, h.1, h.2.1, ?_⟩
    have h3 := h.2.2
    split at h3
    · exact Or.inl (wAt_tb h3)
    · exact Or.inr (nAt_in h3)
theorem fieldD_inv {T k : Nat} {d : String} {C : String} {F : u_T} {N : Nat} (hw : wcl[T]? = some (C, F, N)) (h : fieldD T k d = true) : (F k).2.2.1 = d ∧ (F k).2.2.2 = false := by
  unfold fieldD at h
  rw [hw] at h
  simpa using h
theorem arrV_ext {cA : ClassId} {n : Nat} {f g : Nat → Value} (h : ∀ j, j < n → f j = g j) : arrV cA n f = arrV cA n g := by
  have e : (fun j : Fin n => f j.val) = (fun j : Fin n => g j.val) := funext (fun j => h j.val j.isLt)
  unfold arrV
  rw [e]
section WM
variable {p : Program} {l : Launch} {e : Env} {R : Room} {s : State} {m : MethodId} {args : Array Value} {below : List Frame} {meth : Method} {c : Code} {H : Heap} {locs : List Loc} {cells slots : Nat} {Q : State → Prop} {cc : ByteArray}
variable {ad : Nat → Nat → Nat} {pc : Nat} {Ls : Array Slot} {i : Instr} {own : String} {D : va_G} {A : Nat → Prop} {cI cO : ClassId} {L : Nat} {xs : Nat → Int32} {σ σ' : St} {stk stk' : List IV} {ex : List Nat}
theorem w_getf {j T k z q pz : Nat} {rest : List Value} {v : Value} (hx : p.tables.exec = Jvm.exec) (hb : c.code = cc) (hown : s.vm.findClass own = some m.cls) (hts : ∀ w ∈ TB, w.before args s = true) (hK : va_K D wcl (wtys cI cO) s) (hR : RO ad A L xs s s.heap) (hW : HW ad cI cO D A L xs σ H)
    (hd : decode cc pc = .ok (.getfield j, 3)) (hf : fieldB own j T k z pz = true) (hc : (T, q) ∈ wcells) (hv : fv ad σ T q k = v)
    (kk : W p l e R s m args below meth c H locs cells slots Q (F0 m (pc + 3) Ls (v :: rest))) : W p l e R s m args below meth c H locs cells slots Q (F0 m pc Ls (.ref (ad T q) :: rest)) := by
  obtain ⟨C, F, N, hw, hk, hC, hl⟩ := fieldB_inv hf
  obtain ⟨hin, ⟨ty, hty⟩, hnm, hN, h8⟩ := wcl_ok hw
  obtain ⟨i, hi1, hi2⟩ := wld_get (ad := ad) (cI := cI) (cO := cO) (σ := σ) hc
  rw [pic_obj h8] at hi2
  have hvv : ((List.range (nF T)).map (fv ad σ T q))[k]? = some v := by
    rw [List.getElem?_map, List.getElem?_range (by omega), Option.map_some, hv]
  rcases hl with hl | hl
  · exact va_get hx hb hts hin hown hK hW.1 i hi2 hw k hk (hts _ hl) (fun x h => by rw [hC] at h; exact h) hvv hd kk
  · exact va_getN hx hb hts hin hown hK hW.1 i hi2 hw k hk (va_Nw.use rfl (hR.2.2.2 _ hl)) (fun x h => by rw [hC] at h; exact h) hvv hd kk
theorem w_putf {j T k z q pz : Nat} {rest : List Value} {v : Value} {d : String} {ty0 : FieldType} (hx : p.tables.exec = Jvm.exec) (hb : c.code = cc) (hown : s.vm.findClass own = some m.cls) (hts : ∀ w ∈ TB, w.before args s = true) (hK : va_K D wcl (wtys cI cO) s) (hR : RO ad A L xs s s.heap) (hS : va_S A s.heap H locs) (hW : HW ad cI cO D A L xs σ H)
    (hd : decode cc pc = .ok (.putfield j, 3)) (hf : fieldB own j T k z pz = true) (hfd : fieldD T k d = true) (hpd : parseFieldDescriptor d = some ty0) (hn : narrow ty0 v = v) (hft : fits ty0 v = true) (hc : (T, q) ∈ wcells)
    (hset : ((List.range (nF T)).map (fv ad σ T q)).set k v = (List.range (nF T)).map (fv ad σ' T q)) (hoth : ∀ c ∈ wcells, c ≠ (T, q) → pic ad cI cO σ' c = pic ad cI cO σ c) (hsc : σ'.2.2 = σ.2.2)
    (kk : ∀ (H' : Heap) (locs' : List Loc), HW ad cI cO D A L xs σ' H' → va_S A s.heap H' locs' → W p l e R s m args below meth c H' locs' cells slots Q (F0 m (pc + 3) Ls rest)) : W p l e R s m args below meth c H locs cells slots Q (F0 m pc Ls (v :: .ref (ad T q) :: rest)) := by
  obtain ⟨C, F, N, hw, hk, hC, hl⟩ := fieldB_inv hf
  obtain ⟨hfd1, hfd2⟩ := fieldD_inv hw hfd
  obtain ⟨hin, ⟨ty, hty⟩, hnm, hN, h8⟩ := wcl_ok hw
  obtain ⟨i, hi1, hi2⟩ := wld_get (ad := ad) (cI := cI) (cO := cO) (σ := σ) hc
  have e1 := wld_set (ad := ad) (cI := cI) (cO := cO) (σ := σ) (σ' := σ') hi1 hoth
  rw [pic_obj h8, ← hset] at e1
  rw [pic_obj h8] at hi2
  have hkl : k < ((List.range (nF T)).map (fv ad σ T q)).length := by rw [List.length_map, List.length_range]; omega
  have go : ∀ (H1 : Heap) (locs1 : List Loc), va_P D wcl ((wld ad cI cO σ).set i (ad T q, .inr (T, ((List.range (nF T)).map (fv ad σ T q)).set k v))) H1 → va_D A ((wld ad cI cO σ).set i (ad T q, .inr (T, ((List.range (nF T)).map (fv ad σ T q)).set k v))) → va_S A s.heap H1 locs1 → W p l e R s m args below meth c H1 locs1 cells slots Q (F0 m (pc + 3) Ls rest) := by
    intro H1 locs1 a1 a2 a3
    rw [e1] at a1 a2
    refine kk H1 locs1 ⟨a1, a2, ?_, ?_⟩ a3
    · show σ'.2.2.1 = L
      rw [hsc]; exact hW.2.2.1
    · show σ'.2.2.2 = xs
      rw [hsc]; exact hW.2.2.2
  rcases hl with hl | hl
  · exact va_put hx hb hts hin ty hty hnm hown hK hW.1 hW.2.1 hS i hi2 hw k hk (hts _ hl) (fun x h => by rw [hC] at h; exact h) hfd2 (by rw [hfd1]; exact hpd) hn hft hkl hd go
  · exact va_putN hx hb hts hin ty hty hnm hown hK hW.1 hW.2.1 hS i hi2 hw k hk (va_Nw.use rfl (hR.2.2.2 _ hl)) (fun x h => by rw [hC] at h; exact h) hfd2 (by rw [hfd1]; exact hpd) hn hft hkl hd go
end WM

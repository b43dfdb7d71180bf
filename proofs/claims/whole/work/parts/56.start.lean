/-! What the law starts from: the classes, the statics, the text, the script. -/
section ST0
variable {s : State} {args : Array Value}
theorem st_D (hts : ∀ w ∈ lw_tbl, w.before args s = true) : ∃ D : va_G, ∀ (c : Nat) (q : vw_C), wcl[c]? = some q → u_Kn s q.1 q.2.1 q.2.2 (D.1 c) (D.2 c) := by
  have htb : ∀ w ∈ TB, w.before args s = true := fun w h => hts w (tb_in h)
  have h : ∀ c : Nat, ∃ y : ClassId × (Nat → Nat), ∀ q : vw_C, wcl[c]? = some q → u_Kn s q.1 q.2.1 q.2.2 y.1 y.2 := by
    intro c
    match c with
    | 0 => obtain ⟨a, b, h⟩ := u_known (T := TX0) (N := 6) htb i_X0 (hts (.instantiable RX0 6) (List.mem_of_getElem? (i := 242) (by decide +kernel))); exact ⟨(a, b), fun q hq => by cases hq; exact h⟩
    | 1 => obtain ⟨a, b, h⟩ := u_known (T := TX1) (N := 7) htb i_X1 (hts (.instantiable RX1 7) (List.mem_of_getElem? (i := 176) (by decide +kernel))); exact ⟨(a, b), fun q hq => by cases hq; exact h⟩
    | 2 => obtain ⟨a, b, h⟩ := u_known (T := TX2) (N := 2) htb i_X2 (hts (.instantiable RX2 2) (List.mem_of_getElem? (i := 96) (by decide +kernel))); exact ⟨(a, b), fun q hq => by cases hq; exact h⟩
    | 3 => obtain ⟨a, b, h⟩ := u_known (T := TX3) (N := 9) htb i_X3 (hts (.instantiable RX3 9) (List.mem_of_getElem? (i := 206) (by decide +kernel))); exact ⟨(a, b), fun q hq => by cases hq; exact h⟩
    | 4 => obtain ⟨a, b, h⟩ := u_known (T := TX4) (N := 4) htb i_X4 (hts (.instantiable RX4 4) (List.mem_of_getElem? (i := 157) (by decide +kernel))); exact ⟨(a, b), fun q hq => by cases hq; exact h⟩
    | 5 => obtain ⟨a, b, h⟩ := u_known (T := TX5) (N := 12) htb i_X5 (hts (.instantiable RX5 12) (List.mem_of_getElem? (i := 110) (by decide +kernel))); exact ⟨(a, b), fun q hq => by cases hq; exact h⟩
    | 6 => obtain ⟨a, b, h⟩ := u_known (T := TX6) (N := 12) htb i_X6 (hts (.instantiable RX6 12) (List.mem_of_getElem? (i := 88) (by decide +kernel))); exact ⟨(a, b), fun q hq => by cases hq; exact h⟩
    | 7 => obtain ⟨a, b, h⟩ := u_known (T := TX7) (N := 43) htb i_X7 (hts (.instantiable RX7 43) (List.mem_of_getElem? (i := 977) (by decide +kernel))); exact ⟨(a, b), fun q hq => by cases hq; exact h⟩
    | n + 8 => exact ⟨(0, fun _ => 0), fun q hq => by simp at hq⟩
  obtain ⟨f, hf⟩ := Classical.axiomOfChoice h
  exact ⟨(fun c => (f c).1, fun c => (f c).2), fun c q hq => hf c q hq⟩
theorem st_AO (hts : ∀ w ∈ lw_tbl, w.before args s = true) : ni_AO s := ni_AO.of (hts (.arrayOver (.array .int)) (List.mem_of_getElem? (i := 250) (by decide +kernel)))
theorem st_K (hts : ∀ w ∈ lw_tbl, w.before args s = true) : ∃ (D : va_G) (cI cO : ClassId), va_K D wcl (wtys cI cO) s := by
  obtain ⟨D, hD⟩ := st_D hts
  obtain ⟨cI, kI, pI, h1, h2, h3⟩ := Cond.arrayClass_spec (hts (.arrayClass .int) (List.mem_of_getElem? (i := 108) (by decide +kernel)))
  obtain ⟨pO, cO, kO, -, -, g2, g3, g1⟩ := mx_over (st_AO hts)
  refine ⟨D, cI, cO, hD, fun k q hk => ?_⟩
  match k, hk with
  | 0, hk => cases hk; exact ⟨fun n z => ⟨fun q h => (by cases h), kI, h2, pI, h3⟩, h1⟩
  | 1, hk => cases hk; exact ⟨fun n z => ⟨fun q h => (by cases h), kO, g2, pO, g3⟩, g1⟩
  | n + 2, hk => simp at hk
theorem st_mem {l : List Jvm.Cond} (ps : List Nat) (h : l = ps.filterMap (fun i => lw_tbl[i]?)) : ∀ w ∈ l, w ∈ lw_tbl := fun w hw => by
  rw [h] at hw
  obtain ⟨i, -, hi⟩ := List.mem_filterMap.mp hw
  exact List.mem_of_getElem? hi
theorem nest_tbl : ∀ w ∈ nestWs, w ∈ lw_tbl := st_mem [804, 805, 817, 741, 743, 753, 938, 939, 128, 130, 124, 126] (by decide +kernel)
theorem ni_tbl : ∀ w ∈ niWs, w ∈ lw_tbl := st_mem [97, 111, 158, 177, 182, 207, 212, 243, 248] (by decide +kernel)
theorem st_nest (hts : ∀ w ∈ lw_tbl, w.before args s = true) : ∀ w ∈ nestWs, va_Nw w s := fun w hw => va_Nw.of ((by decide +kernel : ∀ w ∈ nestWs, w.onTables = true) w hw) (hts w (nest_tbl w hw))
theorem st_ni (hts : ∀ w ∈ lw_tbl, w.before args s = true) : ni_N s := ⟨fun w hw => va_Nw.of ((by decide +kernel : ∀ w ∈ niWs, w.onTables = true) w hw) (hts w (ni_tbl w hw)), st_AO hts⟩
theorem st_RO {b L : Nat} {f : Nat → Int32} (hts : ∀ w ∈ lw_tbl, w.before args s = true) (hgv : (Jvm.Cond.and given_1 narrow_1).before args s = true) (hX : va_X b L f s s.heap) (hb : b < s.heap.size) : ∃ a60 a61 a62 a63 : Nat, ∀ ad : Nat → Nat → Nat, ad 60 0 = a60 → ad 61 0 = a61 → ad 62 0 = a62 → ad 63 0 = a63 → ad 64 0 = b → RO ad (fun q => s.heap.size ≤ q) L f s s.heap := by
  have hA : ∀ a : Nat, a < s.heap.size → ¬ (s.heap.size ≤ a) := fun a h => Nat.not_le.mpr h
  have hg := flat_of_before _ hgv
  obtain ⟨t0, e0, hT0⟩ := va_Tof (tm := .static RX6 "LESSER" "[I") (ty := .int) (N := 15) (f := fun j => .int (roF 60 j)) (A := fun q => s.heap.size ≤ q) (by decide) (hg _ (by decide +kernel)) (va_eqt (hg _ (by decide +kernel))) (fun j hj => va_eqt (hg _ ((by decide +kernel : ∀ j, j < 15 → Cond.eq (.elem (.static RX6 "LESSER" "[I") (.int (Int32.ofNat j))) (.int (roF 60 j)) ∈ flatC (Jvm.Cond.and given_1 narrow_1)) j hj))) hA
  obtain ⟨t1, e1, hT1⟩ := va_Tof (tm := .static RX6 "GREATER" "[I") (ty := .int) (N := 15) (f := fun j => .int (roF 61 j)) (A := fun q => s.heap.size ≤ q) (by decide) (hg _ (by decide +kernel)) (va_eqt (hg _ (by decide +kernel))) (fun j hj => va_eqt (hg _ ((by decide +kernel : ∀ j, j < 15 → Cond.eq (.elem (.static RX6 "GREATER" "[I") (.int (Int32.ofNat j))) (.int (roF 61 j)) ∈ flatC (Jvm.Cond.and given_1 narrow_1)) j hj))) hA
  have hi : (Cond.initialized RX6).before args s = true := hts _ (List.mem_of_getElem? (i := 71) (by decide +kernel))
  have hZ0 := va_Zof (C := RX6) (n := "LESSER") (d := "[I") (A := fun q => s.heap.size ≤ q) (hts _ (List.mem_of_getElem? (i := 742) (by decide +kernel))) hi e0 hA
  have hZ1 := va_Zof (C := RX6) (n := "GREATER") (d := "[I") (A := fun q => s.heap.size ≤ q) (hts _ (List.mem_of_getElem? (i := 744) (by decide +kernel))) hi e1 hA
  have hZ2 := va_Zof (C := "java/lang/String") (n := "COMPACT_STRINGS") (d := "Z") (v := .int 1) (A := fun q => s.heap.size ≤ q) (hts _ (List.mem_of_getElem? (i := 357) (by decide +kernel))) (hts _ (List.mem_of_getElem? (i := 79) (by decide +kernel))) (va_eqi (hg _ (by decide +kernel))) hA
  obtain ⟨adK, adV, ⟨hS, -⟩, hev⟩ := vk_Sof (s := s) (args := args) (N := 1) (tm := fun _ => .string RX2 60) (len := [5]) (byt := [[104, 116, 109, 115, 102]]) (A := fun q => s.heap.size ≤ q) (fun i hi => by match i, hi with | 0, _ => decide) (fun i hi => hg _ (by decide +kernel)) (fun i hi => hg _ (by decide +kernel)) (fun i hi => hg _ (by decide +kernel)) (fun i hi => by match i, hi with | 0, _ => exact hg _ (by decide +kernel)) (fun i hi j hj => by match i, hi with | 0, _ => exact hg _ ((by decide +kernel : ∀ j, j < 5 → Cond.eq (.elem (.field (.string RX2 60) "java/lang/String" "value" "[B") (.int (Int32.ofNat j))) (.int (roF 63 j)) ∈ flatC (Jvm.Cond.and given_1 narrow_1)) j hj)) (fun i j hi hj hij => absurd (show i = j by omega) hij) hA
  obtain ⟨s1, s2, s3, s4⟩ := hS 0 (by decide)
  have hR := vk_R.of (tx := "htmsf") (hts _ (List.mem_of_getElem? (i := 343) (by decide +kernel))) (hev 0 (by decide))
  refine ⟨t0, t1, adK 0, adV 0, fun ad h0 h1 h2 h3 h4 => ?_⟩
  unfold RO
  rw [h0, h1, h2, h3, h4]
  exact ⟨⟨hZ0, hT0, hZ1, hT1⟩, ⟨hZ2, vk_R.same rfl hR, s1, s2, s3, s4⟩, ⟨hX, hb, hA b hb⟩, st_nest hts⟩
end ST0

/-! From the law's entry to its end. -/
theorem dl_0 : decode code 0 = .ok (.new 7, 3) := by decide +kernel
theorem dl_3 : decode code 3 = .ok (.dup, 1) := by decide +kernel
theorem dl_4 : decode code 4 = .ok (.invokespecial 9, 3) := by decide +kernel
theorem dl_7 : decode code 7 = .ok (.astore_n 1, 1) := by decide +kernel
theorem dl_8 : decode code 8 = .ok (.new 10, 3) := by decide +kernel
theorem dl_11 : decode code 11 = .ok (.dup, 1) := by decide +kernel
theorem dl_12 : decode code 12 = .ok (.invokespecial 12, 3) := by decide +kernel
theorem dl_15 : decode code 15 = .ok (.astore_n 2, 1) := by decide +kernel
theorem st_G6 : GoodIn lw_tbl wsX6_init := fun w hw => ⟨(by decide +kernel : ∀ w ∈ wsX6_init, w ∈ lw_tbl) w hw, good_of_word ((by decide +kernel : ∀ w ∈ wsX6_init, goodWord w = true) w hw)⟩
theorem st_G7 : GoodIn lw_tbl wsX7_init := fun w hw => ⟨(by decide +kernel : ∀ w ∈ wsX7_init, w ∈ lw_tbl) w hw, good_of_word ((by decide +kernel : ∀ w ∈ wsX7_init, goodWord w = true) w hw)⟩
theorem st_S {A : Nat → Prop} {s : State} {H : Heap} {locs : List Loc} (hA : A = fun q => s.heap.size ≤ q) (hS : va_S A s.heap H locs) : ∀ q ∈ locs, s.heap.size ≤ q.base := fun q hq => by
  have h := hS.2.2 q hq
  rw [hA] at h
  exact h
set_option maxHeartbeats 4000000 in
set_option maxRecDepth 100000 in
/-- from the law's loop on, when both objects stand -/
theorem st_loop {p : Program} {e : Env} {s : State} {m : MethodId} {below : List Frame} {meth : Method} {c : Code} {l : Launch} {b L : Nat} {f : Nat → Int32} (hL : L ≤ 256) (C0 : lw_At p s m meth c b L f) {ad : Nat → Nat → Nat} {cI cO : ClassId} {D : va_G} {H : Heap} {locs : List Loc} {ls : Array Slot} {cells slots : Nat} (hK : va_K D wcl (wtys cI cO) s) (hR : RO ad (fun q => s.heap.size ≤ q) L f s s.heap) (e64 : ad 64 0 = b) (hW : HW ad cI cO D (fun q => s.heap.size ≤ q) L f (z0 L f) H) (hS : va_S (fun q => s.heap.size ≤ q) s.heap H locs) (hl : lv_has ls 4 [(2, .ref (ad 7 0)), (1, .ref (ad 6 0)), (0, .ref b)]) (hcells : cells ≤ 600000) (hslots : slots ≤ 7302250) : W p l e room_1 s m #[Value.ref b] below meth c H locs cells slots (lw_Z below #[Value.ref b] s) (F0 m 16 ls []) := by
  obtain ⟨hx, hb, hr, hml, hown, hts, hX, hbl, hlocks, hgv⟩ := C0
  obtain ⟨n, σ', hn⟩ := law_run (L := L) (f := f) hL
  have htb : ∀ w ∈ TB, w.before #[Value.ref b] s = true := fun w h => hts w (tb_in h)
  have hLR : LR ad ls 4 [vR 64 0, vR 6 0, vR 7 0, vN] := ⟨rfl, lv_sub hl [2, 1, 0] (by rw [← e64]; rfl)⟩
  have hok : ∀ x ∈ [vR 64 0, vR 6 0, vR 7 0, vN], okV x := by
    intro x hx
    simp only [List.mem_cons, List.not_mem_nil, or_false] at hx
    rcases hx with rfl | rfl | rfl | rfl
    · exact Or.inr ⟨by decide, by decide, rfl⟩
    · exact Or.inl (by decide)
    · exact Or.inl (by decide)
    · trivial
  refine walk rb_all mw_all n (fun n' _ => snd_all rb_all mw_all n') (k := 225) (d := 13) (nL := 4) (cc := code) (own := R_law) (rt := ret) (v := some (vI 1)) (σ' := σ') hx hb hml hown htb hK hR rb_law ⟨Nat.le_of_ble_eq_true rfl, Nat.le_of_ble_eq_true rfl, hcells, hslots⟩ ?_ n (Nat.le_refl n) 16 [vR 64 0, vR 6 0, vR 7 0, vN] [] (z0 L f) H locs ls hLR hok (fun x hx => by cases hx) hW hS hn
  intro pc nx i ex stk H locs Ls hlk hrt hW' hS'
  have hrow := row_of (k := 225) rb_law hlk
  simp only [rowB, Bool.and_eq_true, decide_eq_true_eq] at hrow
  obtain ⟨hdec, -, -⟩ := hrow
  refine va_forget (st_S rfl hS') (W.widen hcells hslots ?_)
  cases i with
  | ireturn =>
    have hstk : stk = [vI 1] := by
      simp only [rtn] at hrt
      split at hrt
      · cases hrt; rfl
      · split at hrt
        · cases hrt; rfl
        · cases hrt
      · split at hrt
        · cases hrt; rfl
        · cases hrt
      · cases hrt
    subst hstk
    exact lw_ret hx hb hr hlocks hdec
  | lreturn =>
    simp only [rtn] at hrt
    split at hrt <;> cases hrt
  | areturn =>
    simp only [rtn] at hrt
    split at hrt <;> cases hrt
  | return_ =>
    simp only [rtn] at hrt
    split at hrt <;> cases hrt
  | _ => simp only [rtn] at hrt; cases hrt
set_option maxHeartbeats 4000000 in
set_option maxRecDepth 100000 in
theorem whole_start {p : Program} {e : Env} {s : State} {m : MethodId} {below : List Frame} {meth : Method} {c : Code} (l : Launch) (hflags : l.flags = flags0) {b L : Nat} {xs : Nat → Int32} (hL : L ≤ 256) (C0 : lw_At p s m meth c b L xs) : W p l e room_1 s m #[Value.ref b] below meth c s.heap [] 0 0 (lw_Z below #[Value.ref b] s) (entryFrame m ([Value.ref b] : List Value).toArray 4) := by
  have C1 := C0
  obtain ⟨hx, hb, hr, hml, hown, hts, hX, hbl, hlocks, hgv⟩ := C0
  obtain ⟨D, cI, cO, hK⟩ := st_K hts
  obtain ⟨a60, a61, a62, a63, hRO⟩ := st_RO hts hgv hX hbl
  have hni := st_ni hts
  have htb : ∀ w ∈ TB, w.before #[Value.ref b] s = true := fun w h => hts w (tb_in h)
  have hA : ∀ q : Nat, s.heap.size ≤ q → (fun q => s.heap.size ≤ q) q := fun q h => h
  have hP : va_P D wcl [] s.heap := fun k q h => by simp at h
  have hD : va_D (fun q => s.heap.size ≤ q) [] := ⟨fun i j p q h => by simp at h, fun k q h => by simp at h⟩
  have hS : va_S (fun q => s.heap.size ≤ q) s.heap s.heap [] := va_S.rf
  have hl := lv_entry ([.ref b]) (n := 4) (Nat.le_of_ble_eq_true rfl)
  rw [lg_entry_eq]
  generalize (lg_sl ([.ref b]) ++ List.replicate (4 - (lg_sl ([.ref b])).length) Slot.unset).toArray = ls at hl ⊢
  have hl : lv_has ls 4 [(0, .ref b)] := hl
  refine va_new (ci := 6) (fs := fs_6) (C := RX6) (T := TX6) (N := 12) (index := 7) (own := R_law) hx hb htb i_X6 tyX6 tyX6_ok hown (hts _ (List.mem_of_getElem? (i := 87) (by decide +kernel))) (hts _ (List.mem_of_getElem? (i := 88) (by decide +kernel))) (hts _ (List.mem_of_getElem? (i := 71) (by decide +kernel))) hK hP hD hS hA rfl fs_6_ok (Nat.le_of_ble_eq_true rfl) (Nat.le_of_ble_eq_true rfl) dl_0 (fun q6 H hP hD hS => ?_)
  refine lv_dup hx hb dl_3 rfl ?_
  have hFc := va_free (wc := [(q6, .inr (6, fs_6))]) hD hS hA [0] rfl
  refine va_callv (va_runI (As := []) (rest := [.ref q6]) (own := R_law) ⟨hx, hb, hml, hown, hts⟩ (nc_6 l D cI cO q6 H.size) (cwI 0 hts st_G6 rfl rfl rfl (hts _ (List.mem_of_getElem? (i := 71) (by decide +kernel))) (hts (.methodLink R_law 9 yX6_init) (List.mem_of_getElem? (i := 89) (by decide +kernel))) (hts (.instanceMethod yX6_init) (List.mem_of_getElem? (i := 90) (by decide +kernel))) rfl (by decide +kernel) ⟨Nat.le_of_ble_eq_true rfl, Nat.le_of_ble_eq_true rfl⟩) ⟨fun a U g mk q => by obtain ⟨q0, q1, qP, qK, qD, qN⟩ := q; exact ⟨q0, q1, qP, va_K.moved (u := U) (U := U.calling g mk a) (Vm.Alike.refl U.vm) qK, qD, ni_same (u := U) rfl qN⟩, fun U hU hW => ⟨rfl, by rw [hU], by rw [hU]; exact hP, va_K.moved hW.alike hK, hD.weaken (fun _ _ _ _ => trivial), ni_warm hW hni⟩⟩ rfl rfl hl.1 rfl (lv_room (Nat.le_of_ble_eq_true rfl)) dl_4 ⟨Nat.le_of_ble_eq_true rfl, Nat.le_of_ble_eq_true rfl⟩) hS (fun q _ h => hFc q h) hFc (fun v6 t H1 locs ht hvm h6 hB hz1 hk1 hS => ?_)
  obtain ⟨hP1, hD1⟩ := hB
  rw [ht] at hP1
  obtain ⟨hP, hD⟩ := ni_join (X := []) hP hD hk1 hFc hP1 hD1
  refine lv_astore_n (i := 1) hx hb dl_7 rfl hl (by decide) rfl (fun ls hl => ?_)
  have hl : lv_has ls 4 [(1, .ref q6), (0, .ref b)] := hl
  have hP : va_P D wcl v6 H1 := hP
  have hD : va_D (fun q => s.heap.size ≤ q) v6 := hD
  refine va_new (ci := 7) (fs := fs_7) (C := RX7) (T := TX7) (N := 43) (index := 10) (own := R_law) hx hb htb i_X7 tyX7 tyX7_ok hown (hts _ (List.mem_of_getElem? (i := 976) (by decide +kernel))) (hts _ (List.mem_of_getElem? (i := 977) (by decide +kernel))) (hts _ (List.mem_of_getElem? (i := 78) (by decide +kernel))) hK hP hD hS hA rfl fs_7_ok (Nat.le_of_ble_eq_true rfl) (Nat.le_of_ble_eq_true rfl) dl_8 (fun q7 H hP hD hS => ?_)
  refine lv_dup hx hb dl_11 rfl ?_
  have hPc := hP.sub (ws' := [(q7, .inr (7, fs_7))]) [v6.length] (by rw [List.filterMap_cons, ni_last]; rfl)
  have hDc := hD.sub (ws' := [(q7, .inr (7, fs_7))]) [v6.length] (by simp [va_nd]) (by rw [List.map_cons, ni_last]; rfl)
  have hFc := va_free (wc := [(q7, .inr (7, fs_7))]) hD hS hA [v6.length] (by rw [List.map_cons, ni_last]; rfl)
  refine va_callv (va_runI (As := []) (rest := [.ref q7]) (own := R_law) ⟨hx, hb, hml, hown, hts⟩ (nc_7 l D cI cO q7 H.size) (cwI 0 hts st_G7 rfl rfl rfl (hts _ (List.mem_of_getElem? (i := 78) (by decide +kernel))) (hts (.methodLink R_law 12 yX7_init) (List.mem_of_getElem? (i := 978) (by decide +kernel))) (hts (.instanceMethod yX7_init) (List.mem_of_getElem? (i := 979) (by decide +kernel))) rfl (by decide +kernel) ⟨Nat.le_of_ble_eq_true rfl, Nat.le_of_ble_eq_true rfl⟩) ⟨fun a U g mk q => by obtain ⟨q0, q1, qP, qK, qD, qN⟩ := q; exact ⟨q0, q1, qP, va_K.moved (u := U) (U := U.calling g mk a) (Vm.Alike.refl U.vm) qK, qD, ni_same (u := U) rfl qN⟩, fun U hU hW => ⟨rfl, by rw [hU], by rw [hU]; exact hPc, va_K.moved hW.alike hK, hDc.weaken (fun _ _ _ _ => trivial), ni_warm hW hni⟩⟩ rfl rfl hl.1 rfl (lv_room (Nat.le_of_ble_eq_true rfl)) dl_12 ⟨Nat.le_of_ble_eq_true rfl, Nat.le_of_ble_eq_true rfl⟩) hS (fun q _ h => hFc q h) hFc (fun v7 t H1 locs ht hvm h7 hB hz1 hk1 hS => ?_)
  obtain ⟨hP1, hD1⟩ := hB
  rw [ht] at hP1
  obtain ⟨hP, hD⟩ := ni_join hP hD hk1 hFc hP1 hD1
  refine lv_astore_n (i := 2) hx hb dl_15 rfl hl (by decide) rfl (fun ls hl => ?_)
  have hl : lv_has ls 4 [(2, .ref q7), (1, .ref q6), (0, .ref b)] := hl
  obtain ⟨ad, k6, k7, k60, k61, k62, k63, k64, w2⟩ := ni_world a60 a61 a62 a63 b L xs h6 h7
  have hPw := hP.sub (ws' := wld ad cI cO (z0 L xs)) wOrd (fm_map _ _ _ w2)
  have hDw := hD.sub (ws' := wld ad cI cO (z0 L xs)) wOrd wOrd_nd w2
  rw [← k6, ← k7] at hl
  exact st_loop hL C1 hK (hRO ad k60 k61 k62 k63 k64) k64 ⟨hPw, hDw, rfl, rfl⟩ hS hl (Nat.le_of_ble_eq_true rfl) (Nat.le_of_ble_eq_true rfl)

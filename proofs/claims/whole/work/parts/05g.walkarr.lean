theorem oob_in {i : Int32} {n : Nat} (h : ¬ oob i n = true) : vp_in i n := by
  intro z
  apply h
  unfold oob
  rcases z with z | z <;> simp [z]
theorem lenT_lt {t : Nat} (h : 0 < lenT t) : t < 60 := by
  rcases Nat.lt_or_ge t 60 with z | z
  · exact z
  · exfalso
    obtain ⟨k, rfl⟩ : ∃ k, t = k + 60 := ⟨t - 60, by omega⟩
    simp [lenT] at h
theorem vp_in_pos {i : Int32} {n : Nat} (h : vp_in i n) : i.toNatClampNeg < n := Nat.not_le.mp fun q => h (Or.inr q)
section WA
variable {p : Program} {l : Launch} {e : Env} {R : Room} {s : State} {m : MethodId} {args : Array Value} {below : List Frame} {meth : Method} {c : Code} {H : Heap} {locs : List Loc} {cells slots : Nat} {Q : State → Prop} {cc : ByteArray}
variable {ad : Nat → Nat → Nat} {pc : Nat} {Ls : Array Slot} {i : Instr} {own : String} {D : va_G} {A : Nat → Prop} {cI cO : ClassId} {L : Nat} {xs : Nat → Int32} {σ σ' : St} {stk stk' : List IV} {ex : List Nat}
theorem w_rows {a T q : Nat} {j : Int32} {rest : List Value} (hT : (T = 23 ∧ a = 24) ∨ (T = 25 ∧ a = 26)) (hx : p.tables.exec = Jvm.exec) (hb : c.code = cc) (hK : va_K D wcl (wtys cI cO) s) (hW : HW ad cI cO D A L xs σ H) (hd : decode cc pc = .ok (.aaload, 1)) (hc : (T, q) ∈ wcells) (hin : vp_in j 6)
    (kk : W p l e R s m args below meth c H locs cells slots Q (F0 m (pc + 1) Ls (.ref (ad a j.toNatClampNeg) :: rest))) : W p l e R s m args below meth c H locs cells slots Q (F0 m pc Ls (.int j :: .ref (ad T q) :: rest)) := by
  obtain ⟨i0, hi1, hi2⟩ := wld_get (ad := ad) (cI := cI) (cO := cO) (σ := σ) hc
  have hlt := vp_in_pos hin
  have hp : pic ad cI cO σ (T, q) = .inl (cO, 6, .inr (.inr (.inr (.inr (rwR ad a))))) := by
    rcases hT with ⟨rfl, rfl⟩ | ⟨rfl, rfl⟩ <;> rfl
  rw [hp] at hi2
  have hv : va_rf (rwR ad a j.toNatClampNeg) = .ref (ad a j.toNatClampNeg) := by
    unfold rwR
    rw [if_pos hlt]
    rfl
  exact W.aald (v := .ref (ad a j.toNatClampNeg)) (ty := .array .int) hx hb (hW.1 i0 _ hi2) ((hK.2 1 _ rfl).1 6 (fun j => va_rf (rwR ad a j))) rfl (fun q => by cases q) (by show ¬ (j < 0 ∨ (arrV _ _ _).slots.size ≤ _); rw [arrV_size]; exact hin) (by show (arrV _ _ _).slots[_]? = _; rw [arrV_read _ _ hlt, hv]) rfl rfl hd kk
theorem w_arr (hx : p.tables.exec = Jvm.exec) (hb : c.code = cc) (hK : va_K D wcl (wtys cI cO) s) (hR : RO ad A L xs s s.heap) (hS : va_S A s.heap H locs) (hW : HW ad cI cO D A L xs σ H)
    (hd : decode cc pc = .ok (i, ilen i)) (hv : ∀ v ∈ stk, okV v) (ha : arr i stk σ = some (stk', σ'))
    (kk : ∀ (H' : Heap) (locs' : List Loc), HW ad cI cO D A L xs σ' H' → va_S A s.heap H' locs' → W p l e R s m args below meth c H' locs' cells slots Q (F0 m (pc + ilen i) Ls (stk'.map (mp ad)))) : W p l e R s m args below meth c H locs cells slots Q (F0 m pc Ls (stk.map (mp ad))) := by
  cases i with
  | iaload =>
    simp only [arr] at ha
    split at ha
    · rename_i j t q r
      split at ha
      · cases ha
      · rename_i hn
        cases ha
        have ho : ¬ oob j (lenS σ t) = true := fun z => hn (Or.inl z)
        have h63 : ¬ t = 63 := fun z => hn (Or.inr z)
        have hin := oob_in ho
        have hq := hv _ (List.mem_cons_of_mem _ List.mem_cons_self)
        have k0 := kk H locs hW hS
        rcases Nat.lt_or_ge t 60 with h60 | h60
        · have e1 : lenS σ t = lenT t := if_pos h60
          have e2 : rdA σ t q j.toNatClampNeg = ar σ t q j.toNatClampNeg := if_pos h60
          rw [e1] at hin
          rw [e2] at k0
          have hpos : 0 < lenT t := by have := vp_in_pos hin; omega
          obtain ⟨i0, hi1, hi2⟩ := wld_get (ad := ad) (cI := cI) (cO := cO) (σ := σ) (okR_w hq h60)
          rw [pic_arr hpos] at hi2
          exact va_iald hx hb hK hW.1 i0 0 hi2 rfl hin hd k0
        · obtain ⟨rfl, h65⟩ := okR_0 hq (by omega)
          have hc5 : t = 60 ∨ t = 61 ∨ t = 62 ∨ t = 64 := by omega
          rcases hc5 with rfl | rfl | rfl | rfl
          · exact va_ti hx hb hR.1.2.1 hS hin rfl hd k0
          · exact va_ti hx hb hR.1.2.2.2 hS hin rfl hd k0
          · exact absurd (vp_in_pos hin) (by show ¬ _ < 0; omega)
          · have e1 : lenS σ 64 = L := hW.2.2.1
            have e2 : rdA σ 64 0 j.toNatClampNeg = xs j.toNatClampNeg := congrFun hW.2.2.2 _
            rw [e1] at hin
            rw [e2] at k0
            exact va_sld hx hb hR.2.2.1.1 hR.2.2.1.2.1 hR.2.2.1.2.2 hS hin hd k0
    · cases ha
  | baload =>
    simp only [arr] at ha
    split at ha
    · rename_i j q r
      split at ha
      · cases ha
      · rename_i hn
        cases ha
        obtain ⟨rfl, -⟩ := okR_0 (hv _ (List.mem_cons_of_mem _ List.mem_cons_self)) (by decide)
        exact va_tb hx hb hR.2.1.2.2.2.2.2 hS (oob_in hn) rfl hd (kk H locs hW hS)
    · cases ha
  | iastore =>
    simp only [arr] at ha
    split at ha
    · rename_i x j t q r
      split at ha
      · cases ha
      · rename_i hn
        cases ha
        have hin := oob_in hn
        have hpos : 0 < lenT t := by have := vp_in_pos hin; omega
        have hq := okR_w (hv _ (List.mem_cons_of_mem _ (List.mem_cons_of_mem _ List.mem_cons_self))) (lenT_lt hpos)
        obtain ⟨i0, hi1, hi2⟩ := wld_get (ad := ad) (cI := cI) (cO := cO) (σ := σ) hq
        rw [pic_arr hpos] at hi2
        have e1 := wld_set (ad := ad) (cI := cI) (cO := cO) (σ := σ) (σ' := se σ t q j.toNatClampNeg x) hi1 (fun c _ hc => pic_sw hc)
        rw [pic_arr hpos, ar_se] at e1
        refine va_iast hx hb hK hW.1 hW.2.1 hS i0 0 hi2 rfl hin hd (fun H1 locs1 a1 a2 a3 => ?_)
        rw [e1] at a1 a2
        exact kk H1 locs1 ⟨a1, a2, hW.2.2.1, hW.2.2.2⟩ a3
    · cases ha
  | aaload =>
    simp only [arr] at ha
    split at ha
    · rename_i j q r
      split at ha
      · cases ha
      · rename_i hn
        cases ha
        exact w_rows (Or.inl ⟨rfl, rfl⟩) hx hb hK hW hd (okR_w (hv _ (List.mem_cons_of_mem _ List.mem_cons_self)) (by decide)) (oob_in hn) (kk H locs hW hS)
    · rename_i j q r
      split at ha
      · cases ha
      · rename_i hn
        cases ha
        exact w_rows (Or.inr ⟨rfl, rfl⟩) hx hb hK hW hd (okR_w (hv _ (List.mem_cons_of_mem _ List.mem_cons_self)) (by decide)) (oob_in hn) (kk H locs hW hS)
    · cases ha
  | arraylength =>
    simp only [arr] at ha
    split at ha
    · rename_i t q r
      cases hi : isA t with
      | false => rw [hi] at ha; cases ha
      | true =>
        rw [hi] at ha
        cases ha
        have hq := hv _ List.mem_cons_self
        have k0 := kk H locs hW hS
        rcases Nat.lt_or_ge t 60 with h60 | h60
        · have e1 : lenS σ t = lenT t := if_pos h60
          rw [e1] at k0
          have hpos : 0 < lenT t := by
            rcases Nat.eq_zero_or_pos (lenT t) with z | z
            · exfalso
              simp only [isA, z, Bool.or_eq_true] at hi
              rcases hi with hi | hi | hi | hi | hi
              · cases hi
              · have := beq_e hi; omega
              · have := beq_e hi; omega
              · have := beq_e hi; omega
              · have := beq_e hi; omega
            · exact z
          obtain ⟨i0, hi1, hi2⟩ := wld_get (ad := ad) (cI := cI) (cO := cO) (σ := σ) (okR_w hq h60)
          rw [pic_arr hpos] at hi2
          exact va_alen hx hb hK hW.1 i0 0 hi2 (ty := .int) rfl rfl hd k0
        · obtain ⟨rfl, h65⟩ := okR_0 hq (by omega)
          have hc5 : t = 60 ∨ t = 61 ∨ t = 62 ∨ t = 63 ∨ t = 64 := by omega
          rcases hc5 with rfl | rfl | rfl | rfl | rfl
          · exact va_tlen hx hb hR.1.2.1 hS rfl hd k0
          · exact va_tlen hx hb hR.1.2.2.2 hS rfl hd k0
          · exact absurd hi (by decide)
          · exact va_tlen hx hb hR.2.1.2.2.2.2.2 hS rfl hd k0
          · have e1 : lenS σ 64 = L := hW.2.2.1
            rw [e1] at k0
            exact va_slen hx hb hR.2.2.1.1 hR.2.2.1.2.1 hR.2.2.1.2.2 hS hd k0
    · cases ha
  | _ => simp [arr] at ha
theorem cat_sum {ad : Nat → Nat → Nat} : ∀ r : List IV, ((r.map (mp ad)).map fun v => v.category).sum ≤ 2 * r.length
  | [] => by simp
  | v :: r => by
    have := cat_sum (ad := ad) r
    have h2 : (mp ad v).category ≤ 2 := by rcases lv_cat (mp ad v) with h | h <;> omega
    simp only [List.map_cons, List.sum_cons, List.length_cons]
    omega
theorem wmax1 : (Jvm.Cond.static Lib.Math.max.name) ∈ TB := List.mem_filter.mpr ⟨by decide +kernel, by decide +kernel⟩
theorem wmax2 : (Jvm.Cond.code Lib.Math.max.name Lib.Math.max.code 2 (some .int)) ∈ TB := List.mem_filter.mpr ⟨by decide +kernel, by decide +kernel⟩
theorem wmin1 : (Jvm.Cond.static Lib.Math.min.name) ∈ TB := List.mem_filter.mpr ⟨by decide +kernel, by decide +kernel⟩
theorem wmin2 : (Jvm.Cond.code Lib.Math.min.name Lib.Math.min.code 2 (some .int)) ∈ TB := List.mem_filter.mpr ⟨by decide +kernel, by decide +kernel⟩
theorem wmath : (Jvm.Cond.initialized "java/lang/Math") ∈ TB := List.mem_filter.mpr ⟨by decide +kernel, by decide +kernel⟩
theorem wcop1 : (Jvm.Cond.native arraycopyName) ∈ TB := List.mem_filter.mpr ⟨by decide +kernel, by decide +kernel⟩
theorem wcop2 : (Jvm.Cond.static arraycopyName) ∈ TB := List.mem_filter.mpr ⟨by decide +kernel, by decide +kernel⟩
theorem wcop3 : (Jvm.Cond.initialized "java/lang/System") ∈ TB := List.mem_filter.mpr ⟨by decide +kernel, by decide +kernel⟩
theorem cop_words : nativeFrameWords "java/lang/System" "arraycopy" 5 ≤ 60 := by decide +kernel
theorem w_lib {rt : Option FieldType} (hx : p.tables.exec = Jvm.exec) (hb : c.code = cc) (hml : c.maxLocals = Ls.size) (hown : s.vm.findClass own = some m.cls) (hts : ∀ w ∈ TB, w.before args s = true) (hK : va_K D wcl (wtys cI cO) s) (hS : va_S A s.heap H locs) (hW : HW ad cI cO D A L xs σ H)
    (hRm : 1 ≤ R.frames ∧ 100 ≤ R.locals ∧ cells ≤ R.cells ∧ slots ≤ R.slots)
    (hd : decode cc pc = .ok (i, ilen i)) (hk : lnk own rt pc i ex = true) (hv : ∀ v ∈ stk, okV v) (ha : lib i ex stk σ = some (stk', σ'))
    (kk : ∀ (H' : Heap) (locs' : List Loc), HW ad cI cO D A L xs σ' H' → va_S A s.heap H' locs' → W p l e R s m args below meth c H' locs' cells slots Q (F0 m (pc + ilen i) Ls (stk'.map (mp ad)))) : W p l e R s m args below meth c H locs cells slots Q (F0 m pc Ls (stk.map (mp ad))) := by
  obtain ⟨hr1, hr2, hr3, hr4⟩ := hRm
  cases i with
  | invokestatic j =>
    replace hk : stcB own j ex = true := hk
    simp only [lib] at ha
    split at ha
    · rename_i tl
      split at ha
      · rename_i y x r
        cases hl : Nat.ble r.length 4 with
        | false => rw [hl] at ha; cases ha
        | true =>
          rw [hl] at ha
          cases ha
          have hl4 := Nat.ble_eq.mp hl
          have hw : (Jvm.Cond.methodLink own j Lib.Math.max.name) ∈ TB := by
            match tl, hk with
            | [pz], hk => exact wAt_tb (show wAt pz _ = true from hk)
            | [], hk => simp [stcB] at hk
            | _ :: _ :: _, hk => simp [stcB] at hk
          exact va_mmax hx hb hml hown (hts _ hw) (hts _ wmax1) (hts _ wmath) (hts _ wmax2) hr1 (by have := cat_sum (ad := ad) r; omega) hr3 hr4 hd (kk H locs hW hS)
      · cases ha
    · rename_i tl
      split at ha
      · rename_i y x r
        cases hl : Nat.ble r.length 4 with
        | false => rw [hl] at ha; cases ha
        | true =>
          rw [hl] at ha
          cases ha
          have hl4 := Nat.ble_eq.mp hl
          have hw : (Jvm.Cond.methodLink own j Lib.Math.min.name) ∈ TB := by
            match tl, hk with
            | [pz], hk => exact wAt_tb (show wAt pz _ = true from hk)
            | [], hk => simp [stcB] at hk
            | _ :: _ :: _, hk => simp [stcB] at hk
          exact va_mmin hx hb hml hown (hts _ hw) (hts _ wmin1) (hts _ wmath) (hts _ wmin2) hr1 (by have := cat_sum (ad := ad) r; omega) hr3 hr4 hd (kk H locs hW hS)
      · cases ha
    · rename_i tl
      split at ha
      · rename_i n dp t2 q2 sp t1 q1 r
        split at ha
        · rename_i hc
          obtain ⟨rfl, rfl, rfl, hlen, hpos, hl4⟩ := hc
          cases ha
          have hw : (Jvm.Cond.methodLink own j arraycopyName) ∈ TB := by
            match tl, hk with
            | [pz], hk => exact wAt_tb (show wAt pz _ = true from hk)
            | [], hk => simp [stcB] at hk
            | _ :: _ :: _, hk => simp [stcB] at hk
          have hp1 : 0 < lenT t1 := by omega
          have hp2 : 0 < lenT t2 := by omega
          have hq1 := okR_w (hv (.inr (.inr (.inl (t1, q1)))) (by simp)) (lenT_lt hp1)
          have hq2 := okR_w (hv (.inr (.inr (.inl (t2, q2)))) (by simp)) (lenT_lt hp2)
          obtain ⟨i1, g1, g2⟩ := wld_get (ad := ad) (cI := cI) (cO := cO) (σ := σ) hq1
          obtain ⟨i2, f1, f2⟩ := wld_get (ad := ad) (cI := cI) (cO := cO) (σ := σ) hq2
          rw [pic_arr hp1] at g2
          rw [pic_arr hp2] at f2
          have h31 : lenT t1 < 2 ^ 31 := by
            have : ∀ t, t < 60 → lenT t < 2 ^ 31 := by decide +kernel
            exact this t1 (lenT_lt hp1)
          have ec : (nI (lenT t1)).toNatClampNeg = lenT t1 := nI_clamp h31
          have e1 := wld_set (ad := ad) (cI := cI) (cO := cO) (σ := σ) (σ' := sw σ t2 q2 (ar σ t1 q1)) f1 (fun c _ hc => pic_sw hc)
          refine va_copyi hx hb hml hown (hts _ hw) (hts _ wcop1) (hts _ wcop2) (hts _ wcop3) hK hW.1 hW.2.1 hS i1 i2 0 0 g2 f2 rfl rfl rfl (by decide) (by decide) (nI_pos h31) (by rw [ec]; show 0 + _ ≤ _; omega) (by rw [ec]; show 0 + _ ≤ _; omega) (fun _ _ => rfl) hr1 (by have := cat_sum (ad := ad) stk'; have := cop_words; omega) hd (fun H1 locs1 a1 a2 a3 => ?_)
          have hcell : ∀ H2 : Heap, va_P D wcl ((wld ad cI cO σ).set i2 (ad t2 q2, .inl (cI, lenT t2, .inl (va_cpy (ar σ t1 q1) (ar σ t2 q2) (0 : Int32).toNatClampNeg (0 : Int32).toNatClampNeg (nI (lenT t1)).toNatClampNeg)))) H2 → va_P D wcl (wld ad cI cO (sw σ t2 q2 (ar σ t1 q1))) H2 := by
            intro H2 hP k x hk
            rw [← e1] at hk
            have hlen2 : i2 < (wld ad cI cO σ).length := (List.getElem?_eq_some_iff.mp f2).1
            by_cases ek : k = i2
            · subst ek
              rw [List.getElem?_set_self hlen2] at hk
              cases hk
              have h3 := hP k _ (List.getElem?_set_self hlen2)
              rw [pic_arr hp2, ar_sw]
              show H2[ad t2 q2]? = some (vp_cell cI (lenT t2, .inl (ar σ t1 q1)))
              rw [show H2[ad t2 q2]? = some (vp_cell cI (lenT t2, .inl (va_cpy (ar σ t1 q1) (ar σ t2 q2) (0 : Int32).toNatClampNeg (0 : Int32).toNatClampNeg (nI (lenT t1)).toNatClampNeg))) from h3, vp_cell_i, vp_cell_i]
              refine congrArg some (arrV_ext (fun j hj => ?_))
              rw [ec]
              have : va_cpy (ar σ t1 q1) (ar σ t2 q2) (0 : Int32).toNatClampNeg (0 : Int32).toNatClampNeg (lenT t1) j = ar σ t1 q1 j := by
                have := pk_cpy_in (f := ar σ t1 q1) (g := ar σ t2 q2) (sp := 0) (dp := 0) (n := lenT t1) (j := j) (Nat.zero_le _) (by omega)
                rw [Nat.sub_zero, Nat.zero_add] at this
                exact this
              rw [this]
            · rw [List.getElem?_set_ne (Ne.symm ek)] at hk
              exact hP k x (by rw [List.getElem?_set_ne (Ne.symm ek)]; exact hk)
          have hcellD : va_D A (wld ad cI cO (sw σ t2 q2 (ar σ t1 q1))) := by
            have h4 := hW.2.1.set (e := pic ad cI cO (sw σ t2 q2 (ar σ t1 q1)) (t2, q2)) f2
            rw [e1] at h4
            exact h4
          exact kk H1 locs1 ⟨hcell H1 a1, hcellD, hW.2.2.1, hW.2.2.2⟩ a3
        · cases ha
      · cases ha
    · cases ha
  | _ => simp [lib] at ha
end WA

/-! What is checked of a row: it is decoded from the bytes, and what it links stands among the tables' words. -/
def TB : List Jvm.Cond := lw_tbl.filter goodWord
theorem tb_of {w : Jvm.Cond} {i : Nat} (h : lw_tbl[i]? = some w) (g : goodWord w = true) : w ∈ TB := List.mem_filter.mpr ⟨List.mem_of_getElem? h, g⟩
theorem tb_good {w : Jvm.Cond} (h : w ∈ TB) : goodWord w = true := (List.mem_filter.mp h).2
theorem tb_in {w : Jvm.Cond} (h : w ∈ TB) : w ∈ lw_tbl := (List.mem_filter.mp h).1
def wAt (p : Nat) (w : Jvm.Cond) : Bool := decide (lw_tbl[p]? = some w) && goodWord w
theorem wAt_tb {p : Nat} {w : Jvm.Cond} (h : wAt p w = true) : w ∈ TB := by
  simp only [wAt, Bool.and_eq_true, decide_eq_true_eq] at h
  exact tb_of h.1 h.2
def nAt (p : Nat) (w : Jvm.Cond) : Bool := decide (nestWs[p]? = some w)
theorem nAt_in {p : Nat} {w : Jvm.Cond} (h : nAt p w = true) : w ∈ nestWs := by
  simp only [nAt, decide_eq_true_eq] at h
  exact List.mem_of_getElem? h
def mdf : MRow := (⟨"", "", ""⟩, ByteArray.empty, 0, none, false, 0)
def mY (k : Nat) : MethodName := (mtab.getD k mdf).1
def mB (k : Nat) : ByteArray := (mtab.getD k mdf).2.1
def mM (k : Nat) : Nat := (mtab.getD k mdf).2.2.1
def mR (k : Nat) : Option FieldType := (mtab.getD k mdf).2.2.2.1
def mS (k : Nat) : Bool := (mtab.getD k mdf).2.2.2.2.1
def mN (k : Nat) : Nat := (mtab.getD k mdf).2.2.2.2.2
def ilen : Instr → Nat
  | .bipush _ => 2
  | .iload _ => 2
  | .istore _ => 2
  | .aload _ => 2
  | .astore _ => 2
  | .lload _ => 2
  | .lstore _ => 2
  | .ldc _ => 2
  | .sipush _ => 3
  | .iinc _ _ => 3
  | .getfield _ => 3
  | .putfield _ => 3
  | .getstatic _ => 3
  | .ldc_w _ => 3
  | .ldc2_w _ => 3
  | .invokevirtual _ => 3
  | .invokestatic _ => 3
  | .invokespecial _ => 3
  | .goto _ => 3
  | .ifCond _ _ => 3
  | .if_icmp _ _ => 3
  | .new _ => 3
  | _ => 1
def fieldB (own : String) (j T k z p : Nat) : Bool := match wcl[T]? with
  | some (C, F, N) => decide (k < N) && (decide ((F k).1 = C) && (if z = 0 then wAt p (.fieldLink own j C (F k).2.1 (F k).2.2.1) else nAt p (.fieldLinkNest own j C (F k).2.1 (F k).2.2.1 RX6)))
  | none => false
def fieldD (T k : Nat) (d : String) : Bool := match wcl[T]? with
  | some (_, F, _) => decide ((F k).2.2.1 = d) && decide ((F k).2.2.2 = false)
  | none => false
def getB (own : String) (j : Nat) (ex : List Nat) : Bool := match ex with
  | [0, T, k, z, p] => fieldB own j T k z p && decide ((fkd T k).1 = 0)
  | [1, T, k, z, p, T', m] => fieldB own j T k z p && decide (fkd T k = (1, T', m))
  | [2, T, k, z, p] => fieldB own j T k z p && decide ((fkd T k).1 = 2)
  | [5, 0, 63, p] => wAt p (.fieldLink own j "java/lang/String" "value" "[B")
  | [5, 1, 0, p] => wAt p (.fieldLink own j "java/lang/String" "coder" "B")
  | _ => false
def putB (own : String) (j : Nat) (ex : List Nat) : Bool := match ex with
  | [0, T, k, z, p] => fieldB own j T k z p && (decide ((fkd T k).1 = 0) && fieldD T k "I")
  | [2, T, k, z, p] => fieldB own j T k z p && (decide ((fkd T k).1 = 2) && fieldD T k "J")
  | [3, T, k, z, p] => fieldB own j T k z p && (decide ((fkd T k).1 = 0) && fieldD T k "Z")
  | _ => false
def stN (T : Nat) : String := if T = 60 then "LESSER" else "GREATER"
def gstB (own : String) (j : Nat) (ex : List Nat) : Bool := match ex with
  | [0, 1, 0, p] => wAt p (.fieldLink own j "java/lang/String" "COMPACT_STRINGS" "Z")
  | [1, T, z, p] => (decide (T = 60) || decide (T = 61)) && (if z = 0 then wAt p (.fieldLink own j RX6 (stN T) "[I") else nAt p (.fieldLinkNest own j RX6 (stN T) "[I" RX6))
  | _ => false
def ldcB (own : String) (j : Nat) (ex : List Nat) : Bool := match ex with
  | [0, v, p] => wAt p (.constant own j (Int32.ofNat v))
  | [1, 62, _] => decide (own = RX2) && decide (j = 60)
  | _ => false
def ld2B (own : String) (j : Nat) (ex : List Nat) : Bool := match ex with
  | [v, p] => wAt p (.constantLong own j (Int64.ofNat v))
  | _ => false
def rcvB (T : Nat) (C : String) : Bool := match wcl[T]? with
  | some (C', _, _) => decide (C' = C)
  | none => decide (T = 62) && decide (C = "java/lang/String")
def virB (own : String) (j : Nat) (ex : List Nat) : Bool := match ex with
  | [10, k, n, 0, p, T] => wAt p (.methodLink own j (mY k)) && (decide (n = mN k + 1) && (decide (mS k = false) && (decide (k < mtab.length) && rcvB T (mY k).cls)))
  | 99 :: _ => true
  | _ => false
def stcB (own : String) (j : Nat) (ex : List Nat) : Bool := match ex with
  | [20, p] => wAt p (.methodLink own j Lib.Math.max.name)
  | [21, p] => wAt p (.methodLink own j Lib.Math.min.name)
  | [22, p] => wAt p (.methodLink own j arraycopyName)
  | [11, k, n, z, p] => (if z = 0 then wAt p (.methodLink own j (mY k)) else nAt p (.methodLinkNest own j (mY k) RX6)) && (decide (n = mN k) && (decide (mS k = true) && decide (k < mtab.length)))
  | 99 :: _ => true
  | _ => false
def tgtB (pc : Nat) (off : Int) (ex : List Nat) : Bool := match ex with
  | [t] => decide ((pc : Int) + off = (t : Int))
  | _ => false
def lsB (pc : Nat) (d : Int) (ps : List (Int × Int)) (ex : List Nat) : Bool := match ex with
  | t :: ts => decide ((pc : Int) + d = (t : Int)) && (decide (ps.length = ts.length) && ((ps.zip ts).all (fun q => decide ((pc : Int) + q.1.2 = (q.2 : Int))) && (ps.zip (ps.drop 1)).all (fun (a, next) => a.1 < next.1)))
  | _ => false
def tsB (pc : Nat) (d lo hi : Int) (offs : List Int) (ex : List Nat) : Bool := match ex with
  | t :: ts => decide ((pc : Int) + d = (t : Int)) && (decide (offs.length = ts.length) && (decide (hi - lo + 1 = (ts.length : Int)) && (offs.zip ts).all (fun q => decide ((pc : Int) + q.1 = (q.2 : Int)))))
  | _ => false
def retB (rt : Option FieldType) (ex : List Nat) : Bool := match ex with
  | [0] => decide (rt = some .int)
  | [1] => decide (rt = some .boolean)
  | [2] => decide (rt = some .byte)
  | _ => false
def lnk (own : String) (rt : Option FieldType) (pc : Nat) (i : Instr) (ex : List Nat) : Bool := match i with
  | .getfield j => getB own j ex
  | .putfield j => putB own j ex
  | .getstatic j => gstB own j ex
  | .ldc j => ldcB own j ex
  | .ldc_w j => ldcB own j ex && decide (ex.length = 3) && decide (ex[0]? = some 0)
  | .ldc2_w j => ld2B own j ex
  | .invokevirtual j => virB own j ex
  | .invokestatic j => stcB own j ex
  | .goto o => tgtB pc o ex
  | .ifCond _ o => tgtB pc o ex
  | .if_icmp _ o => tgtB pc o ex
  | .lookupswitch d ps => lsB pc d ps.toList ex
  | .tableswitch d lo hi offs => tsB pc d lo hi offs.toList ex
  | .ireturn => retB rt ex
  | .lreturn => decide (rt = some .long)
  | .areturn => decide (rt = some (.object RX5))
  | .return_ => decide (rt = none)
  | _ => true
def isSw : Instr → Bool
  | .lookupswitch _ _ => true
  | .tableswitch _ _ _ _ => true
  | _ => false
def rowB (own : String) (cc : ByteArray) (rt : Option FieldType) (r : Row) : Bool :=
  decide (decode cc r.1 = .ok (r.2.1, if isSw r.2.1 = true then r.2.2.1 - r.1 else ilen r.2.1)) && ((isSw r.2.1 || decide (r.2.2.1 = r.1 + ilen r.2.1)) && lnk own rt r.1 r.2.1 r.2.2.2)
def mrowB (k : Nat) : Bool := (codes.getD k []).all (rowB (mY k).cls (mB k) (mR k))
/-- of a method: its words, by their places -/
def mwB (k : Nat) : Bool := match mpos.getD k [] with
  | [a, b, c, d] => wAt a (.code (mY k) (mB k) (mM k) (mR k)) && (wAt b (.initialized (mY k).cls) && ((if mS k = true then wAt c (.static (mY k)) else wAt c (.instanceMethod (mY k)) && wAt d (.selects (mY k).cls (mY k) (mY k))) && (plainName (mY k).cls && (decide ((mY k).cls ≠ "java/lang/invoke/MethodHandle") && (decide ((mY k).cls ≠ "java/lang/invoke/VarHandle") && (decide ((parseMethodDescriptor (mY k).desc).map (fun d => d.parameters.length) = some (mN k)) && (decide (mM k = mL k) && Nat.ble (mL k) 20)))))))
  | _ => false

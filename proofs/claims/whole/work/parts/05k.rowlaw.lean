/-! the same of the law, in pieces -/
theorem allc {α : Type} {l : List α} {f : α → Bool} (k : Nat) (h1 : (l.take k).all f = true) (h2 : (l.drop k).all f = true) : l.all f = true := by
  rw [← List.take_append_drop k l, List.all_append, h1, h2]; rfl
set_option maxRecDepth 100000 in
theorem rbl_0 : ((code_225.drop 0).take 20).all (rowB "QuarrelWindowsLaw" code ret) = true := by decide +kernel
set_option maxRecDepth 100000 in
theorem rbl_1 : ((code_225.drop 20).take 20).all (rowB "QuarrelWindowsLaw" code ret) = true := by decide +kernel
set_option maxRecDepth 100000 in
theorem rbl_2 : ((code_225.drop 40).take 20).all (rowB "QuarrelWindowsLaw" code ret) = true := by decide +kernel
set_option maxRecDepth 100000 in
theorem rbl_3 : ((code_225.drop 60).take 20).all (rowB "QuarrelWindowsLaw" code ret) = true := by decide +kernel
set_option maxRecDepth 100000 in
theorem rbl_4 : ((code_225.drop 80).take 20).all (rowB "QuarrelWindowsLaw" code ret) = true := by decide +kernel
set_option maxRecDepth 100000 in
theorem rbl_5 : ((code_225.drop 100).take 20).all (rowB "QuarrelWindowsLaw" code ret) = true := by decide +kernel
set_option maxRecDepth 100000 in
theorem rbl_6 : ((code_225.drop 120).take 20).all (rowB "QuarrelWindowsLaw" code ret) = true := by decide +kernel
set_option maxRecDepth 100000 in
theorem rbl_7 : ((code_225.drop 140).take 20).all (rowB "QuarrelWindowsLaw" code ret) = true := by decide +kernel
set_option maxRecDepth 100000 in
theorem rbl_8 : ((code_225.drop 160).take 20).all (rowB "QuarrelWindowsLaw" code ret) = true := by decide +kernel
set_option maxRecDepth 100000 in
theorem rbl_9 : ((code_225.drop 180).take 20).all (rowB "QuarrelWindowsLaw" code ret) = true := by decide +kernel
set_option maxRecDepth 100000 in
theorem rbl_10 : ((code_225.drop 200).take 20).all (rowB "QuarrelWindowsLaw" code ret) = true := by decide +kernel
set_option maxRecDepth 100000 in
theorem rbl_11 : ((code_225.drop 220).take 20).all (rowB "QuarrelWindowsLaw" code ret) = true := by decide +kernel
set_option maxRecDepth 100000 in
theorem rbl_12 : ((code_225.drop 240).take 20).all (rowB "QuarrelWindowsLaw" code ret) = true := by decide +kernel
set_option maxRecDepth 100000 in
theorem rbl_13 : ((code_225.drop 260).take 20).all (rowB "QuarrelWindowsLaw" code ret) = true := by decide +kernel
set_option maxRecDepth 100000 in
theorem rbl_14 : ((code_225.drop 280).take 20).all (rowB "QuarrelWindowsLaw" code ret) = true := by decide +kernel
set_option maxRecDepth 100000 in
theorem rbl_15 : ((code_225.drop 300).take 20).all (rowB "QuarrelWindowsLaw" code ret) = true := by decide +kernel
set_option maxRecDepth 100000 in
theorem rbl_16 : ((code_225.drop 320).take 20).all (rowB "QuarrelWindowsLaw" code ret) = true := by decide +kernel
set_option maxRecDepth 100000 in
theorem rbl_17 : ((code_225.drop 340).take 20).all (rowB "QuarrelWindowsLaw" code ret) = true := by decide +kernel
set_option maxRecDepth 100000 in
theorem rbl_18 : ((code_225.drop 360).take 20).all (rowB "QuarrelWindowsLaw" code ret) = true := by decide +kernel
set_option maxRecDepth 100000 in
theorem rbl_19 : ((code_225.drop 380).take 20).all (rowB "QuarrelWindowsLaw" code ret) = true := by decide +kernel
set_option maxRecDepth 100000 in
theorem rbl_20 : ((code_225.drop 400).take 20).all (rowB "QuarrelWindowsLaw" code ret) = true := by decide +kernel
set_option maxRecDepth 100000 in
theorem rbl_21 : ((code_225.drop 420).take 20).all (rowB "QuarrelWindowsLaw" code ret) = true := by decide +kernel
set_option maxRecDepth 100000 in
theorem rbl_22 : ((code_225.drop 440).take 20).all (rowB "QuarrelWindowsLaw" code ret) = true := by decide +kernel
set_option maxRecDepth 100000 in
theorem rbl_23 : ((code_225.drop 460).take 20).all (rowB "QuarrelWindowsLaw" code ret) = true := by decide +kernel
set_option maxRecDepth 100000 in
theorem rbl_24 : ((code_225.drop 480).take 20).all (rowB "QuarrelWindowsLaw" code ret) = true := by decide +kernel
set_option maxRecDepth 100000 in
theorem rbl_25 : ((code_225.drop 500).take 20).all (rowB "QuarrelWindowsLaw" code ret) = true := by decide +kernel
set_option maxRecDepth 100000 in
theorem rbl_26 : ((code_225.drop 520).take 20).all (rowB "QuarrelWindowsLaw" code ret) = true := by decide +kernel
set_option maxRecDepth 100000 in
theorem rbl_27 : ((code_225.drop 540).take 20).all (rowB "QuarrelWindowsLaw" code ret) = true := by decide +kernel
set_option maxRecDepth 100000 in
theorem rbl_28 : ((code_225.drop 560).take 20).all (rowB "QuarrelWindowsLaw" code ret) = true := by decide +kernel
set_option maxRecDepth 100000 in
theorem rbl_29 : ((code_225.drop 580).take 20).all (rowB "QuarrelWindowsLaw" code ret) = true := by decide +kernel
set_option maxRecDepth 100000 in
theorem rbl_30 : ((code_225.drop 600).take 20).all (rowB "QuarrelWindowsLaw" code ret) = true := by decide +kernel
set_option maxRecDepth 100000 in
theorem rbl_31 : ((code_225.drop 620).take 20).all (rowB "QuarrelWindowsLaw" code ret) = true := by decide +kernel
set_option maxRecDepth 100000 in
theorem rbl_32 : ((code_225.drop 640).take 20).all (rowB "QuarrelWindowsLaw" code ret) = true := by decide +kernel
set_option maxRecDepth 100000 in
theorem rbe_33 : (code_225.drop 660).all (rowB "QuarrelWindowsLaw" code ret) = true := by decide +kernel
theorem rbe_32 : (code_225.drop 640).all (rowB "QuarrelWindowsLaw" code ret) = true := allc 20 rbl_32 (by rw [List.drop_drop]; exact rbe_33)
theorem rbe_31 : (code_225.drop 620).all (rowB "QuarrelWindowsLaw" code ret) = true := allc 20 rbl_31 (by rw [List.drop_drop]; exact rbe_32)
theorem rbe_30 : (code_225.drop 600).all (rowB "QuarrelWindowsLaw" code ret) = true := allc 20 rbl_30 (by rw [List.drop_drop]; exact rbe_31)
theorem rbe_29 : (code_225.drop 580).all (rowB "QuarrelWindowsLaw" code ret) = true := allc 20 rbl_29 (by rw [List.drop_drop]; exact rbe_30)
theorem rbe_28 : (code_225.drop 560).all (rowB "QuarrelWindowsLaw" code ret) = true := allc 20 rbl_28 (by rw [List.drop_drop]; exact rbe_29)
theorem rbe_27 : (code_225.drop 540).all (rowB "QuarrelWindowsLaw" code ret) = true := allc 20 rbl_27 (by rw [List.drop_drop]; exact rbe_28)
theorem rbe_26 : (code_225.drop 520).all (rowB "QuarrelWindowsLaw" code ret) = true := allc 20 rbl_26 (by rw [List.drop_drop]; exact rbe_27)
theorem rbe_25 : (code_225.drop 500).all (rowB "QuarrelWindowsLaw" code ret) = true := allc 20 rbl_25 (by rw [List.drop_drop]; exact rbe_26)
theorem rbe_24 : (code_225.drop 480).all (rowB "QuarrelWindowsLaw" code ret) = true := allc 20 rbl_24 (by rw [List.drop_drop]; exact rbe_25)
theorem rbe_23 : (code_225.drop 460).all (rowB "QuarrelWindowsLaw" code ret) = true := allc 20 rbl_23 (by rw [List.drop_drop]; exact rbe_24)
theorem rbe_22 : (code_225.drop 440).all (rowB "QuarrelWindowsLaw" code ret) = true := allc 20 rbl_22 (by rw [List.drop_drop]; exact rbe_23)
theorem rbe_21 : (code_225.drop 420).all (rowB "QuarrelWindowsLaw" code ret) = true := allc 20 rbl_21 (by rw [List.drop_drop]; exact rbe_22)
theorem rbe_20 : (code_225.drop 400).all (rowB "QuarrelWindowsLaw" code ret) = true := allc 20 rbl_20 (by rw [List.drop_drop]; exact rbe_21)
theorem rbe_19 : (code_225.drop 380).all (rowB "QuarrelWindowsLaw" code ret) = true := allc 20 rbl_19 (by rw [List.drop_drop]; exact rbe_20)
theorem rbe_18 : (code_225.drop 360).all (rowB "QuarrelWindowsLaw" code ret) = true := allc 20 rbl_18 (by rw [List.drop_drop]; exact rbe_19)
theorem rbe_17 : (code_225.drop 340).all (rowB "QuarrelWindowsLaw" code ret) = true := allc 20 rbl_17 (by rw [List.drop_drop]; exact rbe_18)
theorem rbe_16 : (code_225.drop 320).all (rowB "QuarrelWindowsLaw" code ret) = true := allc 20 rbl_16 (by rw [List.drop_drop]; exact rbe_17)
theorem rbe_15 : (code_225.drop 300).all (rowB "QuarrelWindowsLaw" code ret) = true := allc 20 rbl_15 (by rw [List.drop_drop]; exact rbe_16)
theorem rbe_14 : (code_225.drop 280).all (rowB "QuarrelWindowsLaw" code ret) = true := allc 20 rbl_14 (by rw [List.drop_drop]; exact rbe_15)
theorem rbe_13 : (code_225.drop 260).all (rowB "QuarrelWindowsLaw" code ret) = true := allc 20 rbl_13 (by rw [List.drop_drop]; exact rbe_14)
theorem rbe_12 : (code_225.drop 240).all (rowB "QuarrelWindowsLaw" code ret) = true := allc 20 rbl_12 (by rw [List.drop_drop]; exact rbe_13)
theorem rbe_11 : (code_225.drop 220).all (rowB "QuarrelWindowsLaw" code ret) = true := allc 20 rbl_11 (by rw [List.drop_drop]; exact rbe_12)
theorem rbe_10 : (code_225.drop 200).all (rowB "QuarrelWindowsLaw" code ret) = true := allc 20 rbl_10 (by rw [List.drop_drop]; exact rbe_11)
theorem rbe_9 : (code_225.drop 180).all (rowB "QuarrelWindowsLaw" code ret) = true := allc 20 rbl_9 (by rw [List.drop_drop]; exact rbe_10)
theorem rbe_8 : (code_225.drop 160).all (rowB "QuarrelWindowsLaw" code ret) = true := allc 20 rbl_8 (by rw [List.drop_drop]; exact rbe_9)
theorem rbe_7 : (code_225.drop 140).all (rowB "QuarrelWindowsLaw" code ret) = true := allc 20 rbl_7 (by rw [List.drop_drop]; exact rbe_8)
theorem rbe_6 : (code_225.drop 120).all (rowB "QuarrelWindowsLaw" code ret) = true := allc 20 rbl_6 (by rw [List.drop_drop]; exact rbe_7)
theorem rbe_5 : (code_225.drop 100).all (rowB "QuarrelWindowsLaw" code ret) = true := allc 20 rbl_5 (by rw [List.drop_drop]; exact rbe_6)
theorem rbe_4 : (code_225.drop 80).all (rowB "QuarrelWindowsLaw" code ret) = true := allc 20 rbl_4 (by rw [List.drop_drop]; exact rbe_5)
theorem rbe_3 : (code_225.drop 60).all (rowB "QuarrelWindowsLaw" code ret) = true := allc 20 rbl_3 (by rw [List.drop_drop]; exact rbe_4)
theorem rbe_2 : (code_225.drop 40).all (rowB "QuarrelWindowsLaw" code ret) = true := allc 20 rbl_2 (by rw [List.drop_drop]; exact rbe_3)
theorem rbe_1 : (code_225.drop 20).all (rowB "QuarrelWindowsLaw" code ret) = true := allc 20 rbl_1 (by rw [List.drop_drop]; exact rbe_2)
theorem rbe_0 : (code_225.drop 0).all (rowB "QuarrelWindowsLaw" code ret) = true := allc 20 rbl_0 (by rw [List.drop_drop]; exact rbe_1)
theorem rb_law : code_225.all (rowB "QuarrelWindowsLaw" code ret) = true := rbe_0

/-! What is told of a house, by number. -/
theorem w99_0 {d : Nat} {σ : St} {x1 : Int32} : exec d 99 14 [vR 6 0, vI x1, vI (nI 0)] [] σ = exec d 99 72 [vR 6 0, vI x1, vI (nI 0)] [] σ := by
  rw [s99_14, if_pos (by decide)]
theorem w99_1 {d : Nat} {σ : St} {x1 : Int32} : exec d 99 14 [vR 6 0, vI x1, vI (nI 1)] [] σ = exec d 99 81 [vR 6 0, vI x1, vI (nI 1)] [] σ := by
  rw [s99_14, if_neg (by decide), if_pos (by decide)]
theorem w99_2 {d : Nat} {σ : St} {x1 : Int32} : exec d 99 14 [vR 6 0, vI x1, vI (nI 2)] [] σ = exec d 99 90 [vR 6 0, vI x1, vI (nI 2)] [] σ := by
  rw [s99_14, if_neg (by decide), if_neg (by decide), if_pos (by decide)]
theorem w99_3 {d : Nat} {σ : St} {x1 : Int32} : exec d 99 14 [vR 6 0, vI x1, vI (nI 3)] [] σ = exec d 99 99 [vR 6 0, vI x1, vI (nI 3)] [] σ := by
  rw [s99_14, if_neg (by decide), if_neg (by decide), if_neg (by decide), if_pos (by decide)]
theorem w99_4 {d : Nat} {σ : St} {x1 : Int32} : exec d 99 14 [vR 6 0, vI x1, vI (nI 4)] [] σ = exec d 99 108 [vR 6 0, vI x1, vI (nI 4)] [] σ := by
  rw [s99_14, if_neg (by decide), if_neg (by decide), if_neg (by decide), if_neg (by decide), if_pos (by decide)]
theorem w99_5 {d : Nat} {σ : St} {x1 : Int32} : exec d 99 14 [vR 6 0, vI x1, vI (nI 5)] [] σ = exec d 99 117 [vR 6 0, vI x1, vI (nI 5)] [] σ := by
  rw [s99_14, if_neg (by decide), if_neg (by decide), if_neg (by decide), if_neg (by decide), if_neg (by decide), if_pos (by decide)]
theorem w99_6 {d : Nat} {σ : St} {x1 : Int32} : exec d 99 14 [vR 6 0, vI x1, vI (nI 6)] [] σ = exec d 99 134 [vR 6 0, vI x1, vI (nI 6)] [] σ := by
  rw [s99_14, if_neg (by decide), if_neg (by decide), if_neg (by decide), if_neg (by decide), if_neg (by decide), if_neg (by decide), if_pos (by decide)]
theorem w99_7 {d : Nat} {σ : St} {x1 : Int32} : exec d 99 14 [vR 6 0, vI x1, vI (nI 7)] [] σ = exec d 99 143 [vR 6 0, vI x1, vI (nI 7)] [] σ := by
  rw [s99_14, if_neg (by decide), if_neg (by decide), if_neg (by decide), if_neg (by decide), if_neg (by decide), if_neg (by decide), if_neg (by decide), if_pos (by decide)]
theorem w99_8 {d : Nat} {σ : St} {x1 : Int32} : exec d 99 14 [vR 6 0, vI x1, vI (nI 8)] [] σ = exec d 99 152 [vR 6 0, vI x1, vI (nI 8)] [] σ := by
  rw [s99_14, if_neg (by decide), if_neg (by decide), if_neg (by decide), if_neg (by decide), if_neg (by decide), if_neg (by decide), if_neg (by decide), if_neg (by decide), if_pos (by decide)]
theorem w99_9 {d : Nat} {σ : St} {x1 : Int32} : exec d 99 14 [vR 6 0, vI x1, vI (nI 9)] [] σ = exec d 99 161 [vR 6 0, vI x1, vI (nI 9)] [] σ := by
  rw [s99_14, if_neg (by decide), if_neg (by decide), if_neg (by decide), if_neg (by decide), if_neg (by decide), if_neg (by decide), if_neg (by decide), if_neg (by decide), if_neg (by decide), if_pos (by decide)]
theorem w99_10 {d : Nat} {σ : St} {x1 : Int32} : exec d 99 14 [vR 6 0, vI x1, vI (nI 10)] [] σ = exec d 99 170 [vR 6 0, vI x1, vI (nI 10)] [] σ := by
  rw [s99_14, if_neg (by decide), if_neg (by decide), if_neg (by decide), if_neg (by decide), if_neg (by decide), if_neg (by decide), if_neg (by decide), if_neg (by decide), if_neg (by decide), if_neg (by decide), if_pos (by decide)]
theorem w99_x {d : Nat} {σ : St} {x1 x : Int32} (h : ∀ w, 0 ≤ w → w < 11 → x ≠ nI w) : exec d 99 14 [vR 6 0, vI x1, vI x] [] σ = exec d 99 179 [vR 6 0, vI x1, vI x] [] σ := by
  have t : ∀ w : Nat, 0 ≤ w → w < 11 → ¬ x.toInt = (w : Int) := fun w h0 hw z => h w h0 hw (Int32.toInt_inj.mp (z.trans (nI_toInt (by omega)).symm))
  rw [s99_14, if_neg (show ¬ x.toInt = 0 from t 0 (by omega) (by omega)), if_neg (show ¬ x.toInt = 1 from t 1 (by omega) (by omega)), if_neg (show ¬ x.toInt = 2 from t 2 (by omega) (by omega)), if_neg (show ¬ x.toInt = 3 from t 3 (by omega) (by omega)), if_neg (show ¬ x.toInt = 4 from t 4 (by omega) (by omega)), if_neg (show ¬ x.toInt = 5 from t 5 (by omega) (by omega)), if_neg (show ¬ x.toInt = 6 from t 6 (by omega) (by omega)), if_neg (show ¬ x.toInt = 7 from t 7 (by omega) (by omega)), if_neg (show ¬ x.toInt = 8 from t 8 (by omega) (by omega)), if_neg (show ¬ x.toInt = 9 from t 9 (by omega) (by omega)), if_neg (show ¬ x.toInt = 10 from t 10 (by omega) (by omega))]
theorem w156_0 {d : Nat} {σ : St} {x1 : Int32} : exec d 156 8 [vR 7 0, vI x1, vI (nI 0)] [] σ = exec d 156 68 [vR 7 0, vI x1, vI (nI 0)] [] σ := by
  rw [s156_8, if_pos (by decide)]
theorem w156_1 {d : Nat} {σ : St} {x1 : Int32} : exec d 156 8 [vR 7 0, vI x1, vI (nI 1)] [] σ = exec d 156 75 [vR 7 0, vI x1, vI (nI 1)] [] σ := by
  rw [s156_8, if_neg (by decide), if_pos (by decide)]
theorem w156_2 {d : Nat} {σ : St} {x1 : Int32} : exec d 156 8 [vR 7 0, vI x1, vI (nI 2)] [] σ = exec d 156 82 [vR 7 0, vI x1, vI (nI 2)] [] σ := by
  rw [s156_8, if_neg (by decide), if_neg (by decide), if_pos (by decide)]
theorem w156_3 {d : Nat} {σ : St} {x1 : Int32} : exec d 156 8 [vR 7 0, vI x1, vI (nI 3)] [] σ = exec d 156 89 [vR 7 0, vI x1, vI (nI 3)] [] σ := by
  rw [s156_8, if_neg (by decide), if_neg (by decide), if_neg (by decide), if_pos (by decide)]
theorem w156_4 {d : Nat} {σ : St} {x1 : Int32} : exec d 156 8 [vR 7 0, vI x1, vI (nI 4)] [] σ = exec d 156 95 [vR 7 0, vI x1, vI (nI 4)] [] σ := by
  rw [s156_8, if_neg (by decide), if_neg (by decide), if_neg (by decide), if_neg (by decide), if_pos (by decide)]
theorem w156_5 {d : Nat} {σ : St} {x1 : Int32} : exec d 156 8 [vR 7 0, vI x1, vI (nI 5)] [] σ = exec d 156 101 [vR 7 0, vI x1, vI (nI 5)] [] σ := by
  rw [s156_8, if_neg (by decide), if_neg (by decide), if_neg (by decide), if_neg (by decide), if_neg (by decide), if_pos (by decide)]
theorem w156_6 {d : Nat} {σ : St} {x1 : Int32} : exec d 156 8 [vR 7 0, vI x1, vI (nI 6)] [] σ = exec d 156 115 [vR 7 0, vI x1, vI (nI 6)] [] σ := by
  rw [s156_8, if_neg (by decide), if_neg (by decide), if_neg (by decide), if_neg (by decide), if_neg (by decide), if_neg (by decide), if_pos (by decide)]
theorem w156_7 {d : Nat} {σ : St} {x1 : Int32} : exec d 156 8 [vR 7 0, vI x1, vI (nI 7)] [] σ = exec d 156 121 [vR 7 0, vI x1, vI (nI 7)] [] σ := by
  rw [s156_8, if_neg (by decide), if_neg (by decide), if_neg (by decide), if_neg (by decide), if_neg (by decide), if_neg (by decide), if_neg (by decide), if_pos (by decide)]
theorem w156_8 {d : Nat} {σ : St} {x1 : Int32} : exec d 156 8 [vR 7 0, vI x1, vI (nI 8)] [] σ = exec d 156 127 [vR 7 0, vI x1, vI (nI 8)] [] σ := by
  rw [s156_8, if_neg (by decide), if_neg (by decide), if_neg (by decide), if_neg (by decide), if_neg (by decide), if_neg (by decide), if_neg (by decide), if_neg (by decide), if_pos (by decide)]
theorem w156_9 {d : Nat} {σ : St} {x1 : Int32} : exec d 156 8 [vR 7 0, vI x1, vI (nI 9)] [] σ = exec d 156 140 [vR 7 0, vI x1, vI (nI 9)] [] σ := by
  rw [s156_8, if_neg (by decide), if_neg (by decide), if_neg (by decide), if_neg (by decide), if_neg (by decide), if_neg (by decide), if_neg (by decide), if_neg (by decide), if_neg (by decide), if_pos (by decide)]
theorem w156_10 {d : Nat} {σ : St} {x1 : Int32} : exec d 156 8 [vR 7 0, vI x1, vI (nI 10)] [] σ = exec d 156 147 [vR 7 0, vI x1, vI (nI 10)] [] σ := by
  rw [s156_8, if_neg (by decide), if_neg (by decide), if_neg (by decide), if_neg (by decide), if_neg (by decide), if_neg (by decide), if_neg (by decide), if_neg (by decide), if_neg (by decide), if_neg (by decide), if_pos (by decide)]
theorem w156_x {d : Nat} {σ : St} {x1 x : Int32} (h : ∀ w, 0 ≤ w → w < 11 → x ≠ nI w) : exec d 156 8 [vR 7 0, vI x1, vI x] [] σ = exec d 156 154 [vR 7 0, vI x1, vI x] [] σ := by
  have t : ∀ w : Nat, 0 ≤ w → w < 11 → ¬ x.toInt = (w : Int) := fun w h0 hw z => h w h0 hw (Int32.toInt_inj.mp (z.trans (nI_toInt (by omega)).symm))
  rw [s156_8, if_neg (show ¬ x.toInt = 0 from t 0 (by omega) (by omega)), if_neg (show ¬ x.toInt = 1 from t 1 (by omega) (by omega)), if_neg (show ¬ x.toInt = 2 from t 2 (by omega) (by omega)), if_neg (show ¬ x.toInt = 3 from t 3 (by omega) (by omega)), if_neg (show ¬ x.toInt = 4 from t 4 (by omega) (by omega)), if_neg (show ¬ x.toInt = 5 from t 5 (by omega) (by omega)), if_neg (show ¬ x.toInt = 6 from t 6 (by omega) (by omega)), if_neg (show ¬ x.toInt = 7 from t 7 (by omega) (by omega)), if_neg (show ¬ x.toInt = 8 from t 8 (by omega) (by omega)), if_neg (show ¬ x.toInt = 9 from t 9 (by omega) (by omega)), if_neg (show ¬ x.toInt = 10 from t 10 (by omega) (by omega))]
theorem w121_0 {d : Nat} {σ : St} : exec d 121 0 [vR 6 0, vI (nI 0)] [] σ = exec d 121 96 [vR 6 0, vI (nI 0)] [] σ := by
  rw [s121_0, if_pos (by decide)]
theorem w121_1 {d : Nat} {σ : St} : exec d 121 0 [vR 6 0, vI (nI 1)] [] σ = exec d 121 104 [vR 6 0, vI (nI 1)] [] σ := by
  rw [s121_0, if_neg (by decide), if_pos (by decide)]
theorem w121_2 {d : Nat} {σ : St} : exec d 121 0 [vR 6 0, vI (nI 2)] [] σ = exec d 121 112 [vR 6 0, vI (nI 2)] [] σ := by
  rw [s121_0, if_neg (by decide), if_neg (by decide), if_pos (by decide)]
theorem w121_3 {d : Nat} {σ : St} : exec d 121 0 [vR 6 0, vI (nI 3)] [] σ = exec d 121 120 [vR 6 0, vI (nI 3)] [] σ := by
  rw [s121_0, if_neg (by decide), if_neg (by decide), if_neg (by decide), if_pos (by decide)]
theorem w121_4 {d : Nat} {σ : St} : exec d 121 0 [vR 6 0, vI (nI 4)] [] σ = exec d 121 128 [vR 6 0, vI (nI 4)] [] σ := by
  rw [s121_0, if_neg (by decide), if_neg (by decide), if_neg (by decide), if_neg (by decide), if_pos (by decide)]
theorem w121_5 {d : Nat} {σ : St} : exec d 121 0 [vR 6 0, vI (nI 5)] [] σ = exec d 121 136 [vR 6 0, vI (nI 5)] [] σ := by
  rw [s121_0, if_neg (by decide), if_neg (by decide), if_neg (by decide), if_neg (by decide), if_neg (by decide), if_pos (by decide)]
theorem w121_6 {d : Nat} {σ : St} : exec d 121 0 [vR 6 0, vI (nI 6)] [] σ = exec d 121 144 [vR 6 0, vI (nI 6)] [] σ := by
  rw [s121_0, if_neg (by decide), if_neg (by decide), if_neg (by decide), if_neg (by decide), if_neg (by decide), if_neg (by decide), if_pos (by decide)]
theorem w121_7 {d : Nat} {σ : St} : exec d 121 0 [vR 6 0, vI (nI 7)] [] σ = exec d 121 152 [vR 6 0, vI (nI 7)] [] σ := by
  rw [s121_0, if_neg (by decide), if_neg (by decide), if_neg (by decide), if_neg (by decide), if_neg (by decide), if_neg (by decide), if_neg (by decide), if_pos (by decide)]
theorem w121_8 {d : Nat} {σ : St} : exec d 121 0 [vR 6 0, vI (nI 8)] [] σ = exec d 121 160 [vR 6 0, vI (nI 8)] [] σ := by
  rw [s121_0, if_neg (by decide), if_neg (by decide), if_neg (by decide), if_neg (by decide), if_neg (by decide), if_neg (by decide), if_neg (by decide), if_neg (by decide), if_pos (by decide)]
theorem w121_9 {d : Nat} {σ : St} : exec d 121 0 [vR 6 0, vI (nI 9)] [] σ = exec d 121 168 [vR 6 0, vI (nI 9)] [] σ := by
  rw [s121_0, if_neg (by decide), if_neg (by decide), if_neg (by decide), if_neg (by decide), if_neg (by decide), if_neg (by decide), if_neg (by decide), if_neg (by decide), if_neg (by decide), if_pos (by decide)]
theorem w121_10 {d : Nat} {σ : St} : exec d 121 0 [vR 6 0, vI (nI 10)] [] σ = exec d 121 176 [vR 6 0, vI (nI 10)] [] σ := by
  rw [s121_0, if_neg (by decide), if_neg (by decide), if_neg (by decide), if_neg (by decide), if_neg (by decide), if_neg (by decide), if_neg (by decide), if_neg (by decide), if_neg (by decide), if_neg (by decide), if_pos (by decide)]
theorem w121_11 {d : Nat} {σ : St} : exec d 121 0 [vR 6 0, vI (nI 11)] [] σ = exec d 121 184 [vR 6 0, vI (nI 11)] [] σ := by
  rw [s121_0, if_neg (by decide), if_neg (by decide), if_neg (by decide), if_neg (by decide), if_neg (by decide), if_neg (by decide), if_neg (by decide), if_neg (by decide), if_neg (by decide), if_neg (by decide), if_neg (by decide), if_pos (by decide)]
theorem w121_12 {d : Nat} {σ : St} : exec d 121 0 [vR 6 0, vI (nI 12)] [] σ = exec d 121 192 [vR 6 0, vI (nI 12)] [] σ := by
  rw [s121_0, if_neg (by decide), if_neg (by decide), if_neg (by decide), if_neg (by decide), if_neg (by decide), if_neg (by decide), if_neg (by decide), if_neg (by decide), if_neg (by decide), if_neg (by decide), if_neg (by decide), if_neg (by decide), if_pos (by decide)]
theorem w121_13 {d : Nat} {σ : St} : exec d 121 0 [vR 6 0, vI (nI 13)] [] σ = exec d 121 200 [vR 6 0, vI (nI 13)] [] σ := by
  rw [s121_0, if_neg (by decide), if_neg (by decide), if_neg (by decide), if_neg (by decide), if_neg (by decide), if_neg (by decide), if_neg (by decide), if_neg (by decide), if_neg (by decide), if_neg (by decide), if_neg (by decide), if_neg (by decide), if_neg (by decide), if_pos (by decide)]
theorem w121_14 {d : Nat} {σ : St} : exec d 121 0 [vR 6 0, vI (nI 14)] [] σ = exec d 121 208 [vR 6 0, vI (nI 14)] [] σ := by
  rw [s121_0, if_neg (by decide), if_neg (by decide), if_neg (by decide), if_neg (by decide), if_neg (by decide), if_neg (by decide), if_neg (by decide), if_neg (by decide), if_neg (by decide), if_neg (by decide), if_neg (by decide), if_neg (by decide), if_neg (by decide), if_neg (by decide), if_pos (by decide)]
theorem w121_15 {d : Nat} {σ : St} : exec d 121 0 [vR 6 0, vI (nI 15)] [] σ = exec d 121 216 [vR 6 0, vI (nI 15)] [] σ := by
  rw [s121_0, if_neg (by decide), if_neg (by decide), if_neg (by decide), if_neg (by decide), if_neg (by decide), if_neg (by decide), if_neg (by decide), if_neg (by decide), if_neg (by decide), if_neg (by decide), if_neg (by decide), if_neg (by decide), if_neg (by decide), if_neg (by decide), if_neg (by decide), if_pos (by decide)]
theorem w121_16 {d : Nat} {σ : St} : exec d 121 0 [vR 6 0, vI (nI 16)] [] σ = exec d 121 224 [vR 6 0, vI (nI 16)] [] σ := by
  rw [s121_0, if_neg (by decide), if_neg (by decide), if_neg (by decide), if_neg (by decide), if_neg (by decide), if_neg (by decide), if_neg (by decide), if_neg (by decide), if_neg (by decide), if_neg (by decide), if_neg (by decide), if_neg (by decide), if_neg (by decide), if_neg (by decide), if_neg (by decide), if_neg (by decide), if_pos (by decide)]
theorem w121_17 {d : Nat} {σ : St} : exec d 121 0 [vR 6 0, vI (nI 17)] [] σ = exec d 121 232 [vR 6 0, vI (nI 17)] [] σ := by
  rw [s121_0, if_neg (by decide), if_neg (by decide), if_neg (by decide), if_neg (by decide), if_neg (by decide), if_neg (by decide), if_neg (by decide), if_neg (by decide), if_neg (by decide), if_neg (by decide), if_neg (by decide), if_neg (by decide), if_neg (by decide), if_neg (by decide), if_neg (by decide), if_neg (by decide), if_neg (by decide), if_pos (by decide)]
theorem w121_18 {d : Nat} {σ : St} : exec d 121 0 [vR 6 0, vI (nI 18)] [] σ = exec d 121 237 [vR 6 0, vI (nI 18)] [] σ := by
  rw [s121_0, if_neg (by decide), if_neg (by decide), if_neg (by decide), if_neg (by decide), if_neg (by decide), if_neg (by decide), if_neg (by decide), if_neg (by decide), if_neg (by decide), if_neg (by decide), if_neg (by decide), if_neg (by decide), if_neg (by decide), if_neg (by decide), if_neg (by decide), if_neg (by decide), if_neg (by decide), if_neg (by decide), if_pos (by decide)]
theorem w121_19 {d : Nat} {σ : St} : exec d 121 0 [vR 6 0, vI (nI 19)] [] σ = exec d 121 242 [vR 6 0, vI (nI 19)] [] σ := by
  rw [s121_0, if_neg (by decide), if_neg (by decide), if_neg (by decide), if_neg (by decide), if_neg (by decide), if_neg (by decide), if_neg (by decide), if_neg (by decide), if_neg (by decide), if_neg (by decide), if_neg (by decide), if_neg (by decide), if_neg (by decide), if_neg (by decide), if_neg (by decide), if_neg (by decide), if_neg (by decide), if_neg (by decide), if_neg (by decide), if_pos (by decide)]
theorem w121_x {d : Nat} {σ : St} {x : Int32} (h : ∀ w, 0 ≤ w → w < 20 → x ≠ nI w) : exec d 121 0 [vR 6 0, vI x] [] σ = exec d 121 247 [vR 6 0, vI x] [] σ := by
  have t : ∀ w : Nat, 0 ≤ w → w < 20 → ¬ x.toInt = (w : Int) := fun w h0 hw z => h w h0 hw (Int32.toInt_inj.mp (z.trans (nI_toInt (by omega)).symm))
  rw [s121_0, if_neg (show ¬ x.toInt = 0 from t 0 (by omega) (by omega)), if_neg (show ¬ x.toInt = 1 from t 1 (by omega) (by omega)), if_neg (show ¬ x.toInt = 2 from t 2 (by omega) (by omega)), if_neg (show ¬ x.toInt = 3 from t 3 (by omega) (by omega)), if_neg (show ¬ x.toInt = 4 from t 4 (by omega) (by omega)), if_neg (show ¬ x.toInt = 5 from t 5 (by omega) (by omega)), if_neg (show ¬ x.toInt = 6 from t 6 (by omega) (by omega)), if_neg (show ¬ x.toInt = 7 from t 7 (by omega) (by omega)), if_neg (show ¬ x.toInt = 8 from t 8 (by omega) (by omega)), if_neg (show ¬ x.toInt = 9 from t 9 (by omega) (by omega)), if_neg (show ¬ x.toInt = 10 from t 10 (by omega) (by omega)), if_neg (show ¬ x.toInt = 11 from t 11 (by omega) (by omega)), if_neg (show ¬ x.toInt = 12 from t 12 (by omega) (by omega)), if_neg (show ¬ x.toInt = 13 from t 13 (by omega) (by omega)), if_neg (show ¬ x.toInt = 14 from t 14 (by omega) (by omega)), if_neg (show ¬ x.toInt = 15 from t 15 (by omega) (by omega)), if_neg (show ¬ x.toInt = 16 from t 16 (by omega) (by omega)), if_neg (show ¬ x.toInt = 17 from t 17 (by omega) (by omega)), if_neg (show ¬ x.toInt = 18 from t 18 (by omega) (by omega)), if_neg (show ¬ x.toInt = 19 from t 19 (by omega) (by omega))]
theorem w209_0 {d : Nat} {σ : St} : exec d 209 8 [vR 7 0, vI (nI 0)] [] σ = exec d 209 64 [vR 7 0, vI (nI 0)] [] σ := by
  rw [s209_8, if_pos (by decide)]
theorem w209_1 {d : Nat} {σ : St} : exec d 209 8 [vR 7 0, vI (nI 1)] [] σ = exec d 209 69 [vR 7 0, vI (nI 1)] [] σ := by
  rw [s209_8, if_neg (by decide), if_pos (by decide)]
theorem w209_2 {d : Nat} {σ : St} : exec d 209 8 [vR 7 0, vI (nI 2)] [] σ = exec d 209 74 [vR 7 0, vI (nI 2)] [] σ := by
  rw [s209_8, if_neg (by decide), if_neg (by decide), if_pos (by decide)]
theorem w209_3 {d : Nat} {σ : St} : exec d 209 8 [vR 7 0, vI (nI 3)] [] σ = exec d 209 83 [vR 7 0, vI (nI 3)] [] σ := by
  rw [s209_8, if_neg (by decide), if_neg (by decide), if_neg (by decide), if_pos (by decide)]
theorem w209_4 {d : Nat} {σ : St} : exec d 209 8 [vR 7 0, vI (nI 4)] [] σ = exec d 209 88 [vR 7 0, vI (nI 4)] [] σ := by
  rw [s209_8, if_neg (by decide), if_neg (by decide), if_neg (by decide), if_neg (by decide), if_pos (by decide)]
theorem w209_5 {d : Nat} {σ : St} : exec d 209 8 [vR 7 0, vI (nI 5)] [] σ = exec d 209 93 [vR 7 0, vI (nI 5)] [] σ := by
  rw [s209_8, if_neg (by decide), if_neg (by decide), if_neg (by decide), if_neg (by decide), if_neg (by decide), if_pos (by decide)]
theorem w209_6 {d : Nat} {σ : St} : exec d 209 8 [vR 7 0, vI (nI 6)] [] σ = exec d 209 98 [vR 7 0, vI (nI 6)] [] σ := by
  rw [s209_8, if_neg (by decide), if_neg (by decide), if_neg (by decide), if_neg (by decide), if_neg (by decide), if_neg (by decide), if_pos (by decide)]
theorem w209_7 {d : Nat} {σ : St} : exec d 209 8 [vR 7 0, vI (nI 7)] [] σ = exec d 209 103 [vR 7 0, vI (nI 7)] [] σ := by
  rw [s209_8, if_neg (by decide), if_neg (by decide), if_neg (by decide), if_neg (by decide), if_neg (by decide), if_neg (by decide), if_neg (by decide), if_pos (by decide)]
theorem w209_8 {d : Nat} {σ : St} : exec d 209 8 [vR 7 0, vI (nI 8)] [] σ = exec d 209 108 [vR 7 0, vI (nI 8)] [] σ := by
  rw [s209_8, if_neg (by decide), if_neg (by decide), if_neg (by decide), if_neg (by decide), if_neg (by decide), if_neg (by decide), if_neg (by decide), if_neg (by decide), if_pos (by decide)]
theorem w209_9 {d : Nat} {σ : St} : exec d 209 8 [vR 7 0, vI (nI 9)] [] σ = exec d 209 119 [vR 7 0, vI (nI 9)] [] σ := by
  rw [s209_8, if_neg (by decide), if_neg (by decide), if_neg (by decide), if_neg (by decide), if_neg (by decide), if_neg (by decide), if_neg (by decide), if_neg (by decide), if_neg (by decide), if_pos (by decide)]
theorem w209_x {d : Nat} {σ : St} {x : Int32} (h : ∀ w, 0 ≤ w → w < 10 → x ≠ nI w) : exec d 209 8 [vR 7 0, vI x] [] σ = exec d 209 124 [vR 7 0, vI x] [] σ := by
  have t : ∀ w : Nat, 0 ≤ w → w < 10 → ¬ x.toInt = (w : Int) := fun w h0 hw z => h w h0 hw (Int32.toInt_inj.mp (z.trans (nI_toInt (by omega)).symm))
  rw [s209_8, if_neg (show ¬ x.toInt = 0 from t 0 (by omega) (by omega)), if_neg (show ¬ x.toInt = 1 from t 1 (by omega) (by omega)), if_neg (show ¬ x.toInt = 2 from t 2 (by omega) (by omega)), if_neg (show ¬ x.toInt = 3 from t 3 (by omega) (by omega)), if_neg (show ¬ x.toInt = 4 from t 4 (by omega) (by omega)), if_neg (show ¬ x.toInt = 5 from t 5 (by omega) (by omega)), if_neg (show ¬ x.toInt = 6 from t 6 (by omega) (by omega)), if_neg (show ¬ x.toInt = 7 from t 7 (by omega) (by omega)), if_neg (show ¬ x.toInt = 8 from t 8 (by omega) (by omega)), if_neg (show ¬ x.toInt = 9 from t 9 (by omega) (by omega))]
theorem w210_10 {d : Nat} {σ : St} : exec d 210 0 [vR 7 0, vI (nI 10)] [] σ = exec d 210 56 [vR 7 0, vI (nI 10)] [] σ := by
  rw [s210_0, if_pos (by decide)]
theorem w210_11 {d : Nat} {σ : St} : exec d 210 0 [vR 7 0, vI (nI 11)] [] σ = exec d 210 61 [vR 7 0, vI (nI 11)] [] σ := by
  rw [s210_0, if_neg (by decide), if_pos (by decide)]
theorem w210_12 {d : Nat} {σ : St} : exec d 210 0 [vR 7 0, vI (nI 12)] [] σ = exec d 210 66 [vR 7 0, vI (nI 12)] [] σ := by
  rw [s210_0, if_neg (by decide), if_neg (by decide), if_pos (by decide)]
theorem w210_13 {d : Nat} {σ : St} : exec d 210 0 [vR 7 0, vI (nI 13)] [] σ = exec d 210 71 [vR 7 0, vI (nI 13)] [] σ := by
  rw [s210_0, if_neg (by decide), if_neg (by decide), if_neg (by decide), if_pos (by decide)]
theorem w210_14 {d : Nat} {σ : St} : exec d 210 0 [vR 7 0, vI (nI 14)] [] σ = exec d 210 80 [vR 7 0, vI (nI 14)] [] σ := by
  rw [s210_0, if_neg (by decide), if_neg (by decide), if_neg (by decide), if_neg (by decide), if_pos (by decide)]
theorem w210_15 {d : Nat} {σ : St} : exec d 210 0 [vR 7 0, vI (nI 15)] [] σ = exec d 210 89 [vR 7 0, vI (nI 15)] [] σ := by
  rw [s210_0, if_neg (by decide), if_neg (by decide), if_neg (by decide), if_neg (by decide), if_neg (by decide), if_pos (by decide)]
theorem w210_16 {d : Nat} {σ : St} : exec d 210 0 [vR 7 0, vI (nI 16)] [] σ = exec d 210 94 [vR 7 0, vI (nI 16)] [] σ := by
  rw [s210_0, if_neg (by decide), if_neg (by decide), if_neg (by decide), if_neg (by decide), if_neg (by decide), if_neg (by decide), if_pos (by decide)]
theorem w210_17 {d : Nat} {σ : St} : exec d 210 0 [vR 7 0, vI (nI 17)] [] σ = exec d 210 99 [vR 7 0, vI (nI 17)] [] σ := by
  rw [s210_0, if_neg (by decide), if_neg (by decide), if_neg (by decide), if_neg (by decide), if_neg (by decide), if_neg (by decide), if_neg (by decide), if_pos (by decide)]
theorem w210_18 {d : Nat} {σ : St} : exec d 210 0 [vR 7 0, vI (nI 18)] [] σ = exec d 210 104 [vR 7 0, vI (nI 18)] [] σ := by
  rw [s210_0, if_neg (by decide), if_neg (by decide), if_neg (by decide), if_neg (by decide), if_neg (by decide), if_neg (by decide), if_neg (by decide), if_neg (by decide), if_pos (by decide)]
theorem w210_19 {d : Nat} {σ : St} : exec d 210 0 [vR 7 0, vI (nI 19)] [] σ = exec d 210 109 [vR 7 0, vI (nI 19)] [] σ := by
  rw [s210_0, if_neg (by decide), if_neg (by decide), if_neg (by decide), if_neg (by decide), if_neg (by decide), if_neg (by decide), if_neg (by decide), if_neg (by decide), if_neg (by decide), if_pos (by decide)]
theorem w210_x {d : Nat} {σ : St} {x : Int32} (h : ∀ w, 10 ≤ w → w < 20 → x ≠ nI w) : exec d 210 0 [vR 7 0, vI x] [] σ = exec d 210 114 [vR 7 0, vI x] [] σ := by
  have t : ∀ w : Nat, 10 ≤ w → w < 20 → ¬ x.toInt = (w : Int) := fun w h0 hw z => h w h0 hw (Int32.toInt_inj.mp (z.trans (nI_toInt (by omega)).symm))
  rw [s210_0, if_neg (show ¬ x.toInt = 10 from t 10 (by omega) (by omega)), if_neg (show ¬ x.toInt = 11 from t 11 (by omega) (by omega)), if_neg (show ¬ x.toInt = 12 from t 12 (by omega) (by omega)), if_neg (show ¬ x.toInt = 13 from t 13 (by omega) (by omega)), if_neg (show ¬ x.toInt = 14 from t 14 (by omega) (by omega)), if_neg (show ¬ x.toInt = 15 from t 15 (by omega) (by omega)), if_neg (show ¬ x.toInt = 16 from t 16 (by omega) (by omega)), if_neg (show ¬ x.toInt = 17 from t 17 (by omega) (by omega)), if_neg (show ¬ x.toInt = 18 from t 18 (by omega) (by omega)), if_neg (show ¬ x.toInt = 19 from t 19 (by omega) (by omega))]
/-- what is told of a house -/
noncomputable def tlH (s : Sq) (a w : Nat) : Int32 := if w = 0 then qK s a else if w = 1 then qV s a else if w = 2 then en (qF s a) else if w = 3 then nI (fbit (qF s) a (qn s)) else if w = 4 then sm (fun b => qA s (6 * a + b)) (qn s) else if w = 5 then (if star (qF s) a = true then 1 else 0) else if w = 6 then nI (rsz (qF s) (qn s) a) else if w = 7 then nI (vgo (qF s) (qn s) 0 (some a)).length else if w = 8 then en ((vgo (qF s) (qn s) 0 (some a))[(vgo (qF s) (qn s) 0 (some a)).length - 1]?) else if w = 9 then qT s a else qC s a
section TL
variable {d : Nat} {σ : St} {s : Sq} {a : Nat}
theorem vgo_pos {F : Nat → Option Nat} {n a : Nat} (h : 0 < n) : 0 < (vgo F n 0 (some a)).length := by
  cases n with
  | zero => omega
  | succ m =>
    rw [vgo, Nat.zero_testBit, if_neg Bool.false_ne_true, List.length_cons]
    omega
theorem c_tell {w : Nat} (h6 : qn s ≤ 6) (S : SqAt σ 0 s) (ha : a < qn s) (hw : w < 11) : call (d + 4) 99 [vR 6 0, vI (nI a), vI (nI w)] σ = some (some (vI (tlH s a w)), σ) := by
  have ha6 : a < 6 := by omega
  have hn := S.1.1
  have hF : ∀ a, a < qn s → ar σ 13 0 a = en (qF s a) := S.1.2.2.2.2
  have hv : ∀ a b, qF s a = some b → b < qn s := fun a b h => qF_lt h
  have hH := c_isHouse_t (d := d + 3) hn h6 ha
  rcases (show w = 0 ∨ w = 1 ∨ w = 2 ∨ w = 3 ∨ w = 4 ∨ w = 5 ∨ w = 6 ∨ w = 7 ∨ w = 8 ∨ w = 9 ∨ w = 10 by omega) with rfl | rfl | rfl | rfl | rfl | rfl | rfl | rfl | rfl | rfl | rfl
  · have e := c_kindOf (d := d + 3) (σ := σ) (q := 0) ha6
    rw [S.1.2.1] at e
    simp only [s99_e, s99_0, s99_8, s99_72, s99_80, w99_0, hH, e, Option.bind_some, Option.toList_some, Option.toList_none, List.cons_append, List.nil_append, true_or, or_true, if_true, if_false, i10, i01, Bool.false_eq_true]
    rfl
  · have e := c_viewOf (d := d + 3) (σ := σ) (q := 0) ha6
    rw [S.2.1] at e
    simp only [s99_e, s99_0, s99_8, s99_81, s99_89, w99_1, hH, e, Option.bind_some, Option.toList_some, Option.toList_none, List.cons_append, List.nil_append, true_or, or_true, if_true, if_false, i10, i01, Bool.false_eq_true]
    rfl
  · have e := c_frontOf (d := d + 3) (σ := σ) (q := 0) ha6
    rw [hF a ha] at e
    simp only [s99_e, s99_0, s99_8, s99_90, s99_98, w99_2, hH, e, Option.bind_some, Option.toList_some, Option.toList_none, List.cons_append, List.nil_append, true_or, or_true, if_true, if_false, i10, i01, Bool.false_eq_true]
    rfl
  · have e := c_frontersOf (d := d + 3) hn h6 hF hv ha6
    simp only [s99_e, s99_0, s99_8, s99_99, s99_107, w99_3, hH, e, Option.bind_some, Option.toList_some, Option.toList_none, List.cons_append, List.nil_append, true_or, or_true, if_true, if_false, i10, i01, Bool.false_eq_true]
    rfl
  · have e := c_angersOf (d := d + 2) hn h6 ha6
    rw [S.1.2.2.2.1] at e
    simp only [s99_e, s99_0, s99_8, s99_108, s99_116, w99_4, hH, e, Option.bind_some, Option.toList_some, Option.toList_none, List.cons_append, List.nil_append, true_or, or_true, if_true, if_false, i10, i01, Bool.false_eq_true]
    rfl
  · have e := c_isStaring (d := d + 2) hn h6 hF hv ha
    by_cases c : star (qF s) a = true
    · rw [if_pos c] at e
      have ev : tlH s a 5 = 1 := (if_pos c : (if star (qF s) a = true then (1 : Int32) else 0) = 1)
      rw [ev]
      simp only [s99_e, s99_0, s99_8, s99_117, s99_125, s99_128, s99_132, s99_133, w99_5, hH, e, Option.bind_some, Option.toList_some, Option.toList_none, List.cons_append, List.nil_append, true_or, or_true, if_true, if_false, i10, i01, Bool.false_eq_true]
    · rw [if_neg c] at e
      have ev : tlH s a 5 = 0 := (if_neg c : (if star (qF s) a = true then (1 : Int32) else 0) = 0)
      rw [ev]
      simp only [s99_e, s99_0, s99_8, s99_117, s99_125, s99_128, s99_132, s99_133, w99_5, hH, e, Option.bind_some, Option.toList_some, Option.toList_none, List.cons_append, List.nil_append, true_or, or_true, if_true, if_false, i10, i01, Bool.false_eq_true]
  · have e := c_ringSize (d := d + 2) hn h6 hF hv ha
    simp only [s99_e, s99_0, s99_8, s99_134, s99_142, w99_6, hH, e, Option.bind_some, Option.toList_some, Option.toList_none, List.cons_append, List.nil_append, true_or, or_true, if_true, if_false, i10, i01, Bool.false_eq_true]
    rfl
  · have e := c_lineLength (d := d + 1) hn h6 hF hv ha
    simp only [s99_e, s99_0, s99_8, s99_143, s99_151, w99_7, hH, e, Option.bind_some, Option.toList_some, Option.toList_none, List.cons_append, List.nil_append, true_or, or_true, if_true, if_false, i10, i01, Bool.false_eq_true]
    rfl
  · have e := c_lineEnd (d := d) hn h6 hF hv ha
    simp only [s99_e, s99_0, s99_8, s99_152, s99_160, w99_8, hH, e, Option.bind_some, Option.toList_some, Option.toList_none, List.cons_append, List.nil_append, true_or, or_true, if_true, if_false, i10, i01, Bool.false_eq_true]
    rfl
  · have e := c_tornOf (d := d + 3) (σ := σ) (q := 0) ha6
    rw [S.2.2.1] at e
    simp only [s99_e, s99_0, s99_8, s99_161, s99_169, w99_9, hH, e, Option.bind_some, Option.toList_some, Option.toList_none, List.cons_append, List.nil_append, true_or, or_true, if_true, if_false, i10, i01, Bool.false_eq_true]
    rfl
  · have e := c_costOf (d := d + 3) (σ := σ) (q := 0) ha6
    rw [S.2.2.2.1] at e
    simp only [s99_e, s99_0, s99_8, s99_170, s99_178, w99_10, hH, e, Option.bind_some, Option.toList_some, Option.toList_none, List.cons_append, List.nil_append, true_or, or_true, if_true, if_false, i10, i01, Bool.false_eq_true]
    rfl
theorem m_tellHouse {w : Nat} (h6 : qn s ≤ 6) (hW1 : W01 (qW s)) (h : Mr σ (qn s) (qK s) (qW s)) (hT : Tb σ 35 (qA s)) (hf : MfAt σ s) (ha : a < qn s) (hw : w < 11) : ∃ σ', call (d + 3) 156 [vR 7 0, vI (nI a), vI (nI w)] σ = some (some (vI (tlH s a w)), σ') ∧ Ag QM σ σ' := by
  have ha6 : a < 6 := by omega
  have ia := oob_nI ha6 (show 6 ≤ 1000 by omega)
  have ca := cl6 ha6
  obtain ⟨σ1, e1, F1, g1⟩ := m_layFaces' (d := d + 1) (Or.inl rfl) h6 hW1 h hT
  have gq := g1.fq
  have h1 := h.qm gq
  have hv : ∀ a b, pick (qn s) (qK s) (qW s) (qA s) a = some b → b < qn s := fun a b h => pick_lt h
  rcases (show w = 0 ∨ w = 1 ∨ w = 2 ∨ w = 3 ∨ w = 4 ∨ w = 5 ∨ w = 6 ∨ w = 7 ∨ w = 8 ∨ w = 9 ∨ w = 10 by omega) with rfl | rfl | rfl | rfl | rfl | rfl | rfl | rfl | rfl | rfl | rfl
  · have e := h1.2.1 a ha6
    refine ⟨σ1, ?_, gq⟩
    simp only [s156_e, s156_0, s156_68, s156_74, w156_0, e1, ia, ca, e, Option.bind_some, Option.toList_some, Option.toList_none, List.cons_append, List.nil_append, true_or, or_true, if_true, if_false, i10, i01, Bool.false_eq_true]
    rfl
  · have e := (congrFun (gq.1 32 0 (by unfold QM; omega)) a).trans (hf.1 a ha)
    refine ⟨σ1, ?_, gq⟩
    simp only [s156_e, s156_0, s156_75, s156_81, w156_1, e1, ia, ca, e, Option.bind_some, Option.toList_some, Option.toList_none, List.cons_append, List.nil_append, true_or, or_true, if_true, if_false, i10, i01, Bool.false_eq_true]
    rfl
  · have e := F1 a ha
    refine ⟨σ1, ?_, gq⟩
    simp only [s156_e, s156_0, s156_82, s156_88, w156_2, e1, ia, ca, e, Option.bind_some, Option.toList_some, Option.toList_none, List.cons_append, List.nil_append, true_or, or_true, if_true, if_false, i10, i01, Bool.false_eq_true]
    rfl
  · have e := m_facedBy (d := d + 2) h1.1 h6 F1 hv ha6
    refine ⟨σ1, ?_, gq⟩
    simp only [s156_e, s156_0, s156_89, s156_94, w156_3, e1, e, Option.bind_some, Option.toList_some, Option.toList_none, List.cons_append, List.nil_append, true_or, or_true, if_true, if_false, i10, i01, Bool.false_eq_true]
    rfl
  · have e := m_angerAll (d := d + 2) h1.1 h6 ha6
    have es : sm (fun b => ar σ1 35 0 (6 * a + b)) (qn s) = sm (fun b => qA s (6 * a + b)) (qn s) := sm_ext (fun b hb => (congrFun (gq.1 35 0 (by unfold QM; omega)) _).trans (hT _ (by omega)))
    rw [es] at e
    refine ⟨σ1, ?_, gq⟩
    simp only [s156_e, s156_0, s156_95, s156_100, w156_4, e1, e, Option.bind_some, Option.toList_some, Option.toList_none, List.cons_append, List.nil_append, true_or, or_true, if_true, if_false, i10, i01, Bool.false_eq_true]
    rfl
  · have e := m_stares (d := d + 2) h6 F1 hv ha
    refine ⟨σ1, ?_, gq⟩
    by_cases c : star (qF s) a = true
    · have ev : tlH s a 5 = 1 := (if_pos c : (if star (qF s) a = true then (1 : Int32) else 0) = 1)
      rw [if_pos (show star (pick (qn s) (qK s) (qW s) (qA s)) a = true from c)] at e
      rw [ev]
      simp only [s156_e, s156_0, s156_101, s156_106, s156_109, s156_114, w156_5, e1, e, Option.bind_some, Option.toList_some, Option.toList_none, List.cons_append, List.nil_append, true_or, or_true, if_true, if_false, i10, i01, Bool.false_eq_true]
    · have ev : tlH s a 5 = 0 := (if_neg c : (if star (qF s) a = true then (1 : Int32) else 0) = 0)
      rw [if_neg (show ¬ star (pick (qn s) (qK s) (qW s) (qA s)) a = true from c)] at e
      rw [ev]
      simp only [s156_e, s156_0, s156_101, s156_106, s156_113, s156_114, w156_5, e1, e, Option.bind_some, Option.toList_some, Option.toList_none, List.cons_append, List.nil_append, true_or, or_true, if_true, if_false, i10, i01, Bool.false_eq_true]
  · have e := m_ringOf (d := d + 2) h1.1 h6 F1 hv ha
    refine ⟨σ1, ?_, gq⟩
    simp only [s156_e, s156_0, s156_115, s156_120, w156_6, e1, e, Option.bind_some, Option.toList_some, Option.toList_none, List.cons_append, List.nil_append, true_or, or_true, if_true, if_false, i10, i01, Bool.false_eq_true]
    rfl
  · obtain ⟨σ2, e, q2, g2⟩ := m_layLine (d := d + 2) h1.1 h6 F1 hv ha
    refine ⟨σ2, ?_, gq.tr (g2.mono (fun x q z => by unfold QM; omega))⟩
    simp only [s156_e, s156_0, s156_121, s156_126, w156_7, e1, e, Option.bind_some, Option.toList_some, Option.toList_none, List.cons_append, List.nil_append, true_or, or_true, if_true, if_false, i10, i01, Bool.false_eq_true]
    rfl
  · obtain ⟨σ2, e, q2, g2⟩ := m_layLine (d := d + 2) h1.1 h6 F1 hv ha
    refine ⟨σ2, ?_, gq.tr (g2.mono (fun x q z => by unfold QM; omega))⟩
    have hp := vgo_pos (F := pick (qn s) (qK s) (qW s) (qA s)) (a := a) (show 0 < qn s by omega)
    have hl := vgo_len (F := pick (qn s) (qK s) (qW s) (qA s)) (qn s) 0 (some a)
    have eq1 := List.getElem?_eq_getElem (l := vgo (pick (qn s) (qK s) (qW s) (qA s)) (qn s) 0 (some a)) (i := (vgo (pick (qn s) (qK s) (qW s) (qA s)) (qn s) 0 (some a)).length - 1) (by omega)
    have er := q2 _ _ eq1
    have es : nI (vgo (pick (qn s) (qK s) (qW s) (qA s)) (qn s) 0 (some a)).length - 1 = nI ((vgo (pick (qn s) (qK s) (qW s) (qA s)) (qn s) 0 (some a)).length - 1) := by rw [show (1 : Int32) = nI 1 from rfl, pk_sub (by omega)]
    have ev : tlH s a 8 = en ((vgo (pick (qn s) (qK s) (qW s) (qA s)) (qn s) 0 (some a))[(vgo (pick (qn s) (qK s) (qW s) (qA s)) (qn s) 0 (some a)).length - 1]?) := rfl
    rw [ev, eq1, en_some]
    simp only [s156_e, s156_0, s156_127, s156_136, s156_139, w156_8, e1, e, es, oob_nI (show (vgo (pick (qn s) (qK s) (qW s) (qA s)) (qn s) 0 (some a)).length - 1 < 6 by omega) (show 6 ≤ 1000 by omega), clN (show (vgo (pick (qn s) (qK s) (qW s) (qA s)) (qn s) 0 (some a)).length - 1 ≤ 100000 by omega), er, Option.bind_some, Option.toList_some, Option.toList_none, List.cons_append, List.nil_append, true_or, or_true, if_true, if_false, i10, i01, Bool.false_eq_true]
  · have e := (congrFun (gq.1 33 0 (by unfold QM; omega)) a).trans (hf.2.1 a ha)
    refine ⟨σ1, ?_, gq⟩
    simp only [s156_e, s156_0, s156_140, s156_146, w156_9, e1, ia, ca, e, Option.bind_some, Option.toList_some, Option.toList_none, List.cons_append, List.nil_append, true_or, or_true, if_true, if_false, i10, i01, Bool.false_eq_true]
    rfl
  · have e := (congrFun (gq.1 34 0 (by unfold QM; omega)) a).trans (hf.2.2.1 a ha)
    refine ⟨σ1, ?_, gq⟩
    simp only [s156_e, s156_0, s156_147, s156_153, w156_10, e1, ia, ca, e, Option.bind_some, Option.toList_some, Option.toList_none, List.cons_append, List.nil_append, true_or, or_true, if_true, if_false, i10, i01, Bool.false_eq_true]
    rfl
end TL
